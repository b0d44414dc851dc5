/-! THE TEXT: one reader for the class and for the model -/
def strip (K : KV) : KV := fun q => match q with
  | 6 => fun _ => 0
  | q => K q
theorem strip_ins (K : KV) (i t k m : Int) : strip (insK K i t k m) = insK (strip K) i t k m := by
  funext q
  rcases q with _ | _ | _ | _ | _ | _ | _ | _ | q <;> rfl
theorem strip_insA (K : KV) (x p a u : Int) : strip (insAK K x p a u) = insAK (strip K) x p a u := by
  funext q
  rcases q with _ | _ | _ | _ | _ | _ | _ | _ | q <;> rfl
theorem strip_set2 (K : KV) (i v : Int) : strip (setLK K i 2 v) = setLK (strip K) i 2 v := by
  funext q
  rcases q with _ | _ | _ | _ | _ | _ | _ | _ | q
  all_goals first | rfl | (show setLK K i 2 v (q + 8) = setLK (strip K) i 2 v (q + 8); unfold setLK; rw [if_neg (by omega), if_neg (by omega)]; rfl)
def emK : KV := mkV 0 0 (fun _ => 0) (fun _ => 0) (fun _ => 0) (fun _ => 0) (fun _ => 0) (fun _ => 0) (fun _ => 0)
theorem emK_wf : WFK emK := by
  refine ⟨⟨by decide, by decide⟩, ⟨by decide, by decide⟩, fun j j0 j1 => ?_, fun j j0 j1 => ?_, fun i j i0 i1 j1 => ?_, fun j j0 j1 => ?_⟩
  · exact absurd j1 (show ¬ j < 0 by omega)
  · exact absurd j1 (show ¬ j < 0 by omega)
  · exact absurd j1 (show ¬ j < 0 by omega)
  · show 0 ≤ mask 4 (fun _ => 0) j ∧ mask 4 (fun _ => 0) j ≤ 50
    unfold mask
    split <;> omega
def sg (tl : Int) (tx : Int → Int) (p : Int) : Int := if p < tl then tx p else -1
def wdB (tl : Int) (tx : Int → Int) : List Int → Int → Bool
  | [], _ => true
  | w :: ws, p => decide (sg tl tx p = w) && wdB tl tx ws (p + 1)
def numF (tl : Int) (tx : Int → Int) : Nat → Int → Int → Int × Int
  | 0, v, p => (v, p)
  | n + 1, v, p => if 48 ≤ sg tl tx p ∧ sg tl tx p ≤ 57 then numF tl tx n ((if v < 0 then 0 else 10 * v) + sg tl tx p - 48) (p + 1) else (v, p)
def layF (tl : Int) (tx : Int → Int) (k q : Int) (D : KV) : Option (KV × Int) :=
  if (1 ≤ (numF tl tx 3 (-1) q).1 ∧ (numF tl tx 3 (-1) q).1 ≤ 99) ∧ D 7 0 < 50 ∧ sg tl tx (numF tl tx 3 (-1) q).2 = 59 then some (insK D (D 7 0) (numF tl tx 3 (-1) q).1 k 0, (numF tl tx 3 (-1) q).2 + 1) else none
def gapF (tl : Int) (tx : Int → Int) (q : Int) (D : KV) : Option (KV × Int) :=
  if (0 ≤ (numF tl tx 3 (-1) q).1 ∧ (numF tl tx 3 (-1) q).1 ≤ 20) ∧ D 7 0 ≠ 0 ∧ sg tl tx (numF tl tx 3 (-1) q).2 = 59 then some (setLK D (D 7 0 - 1) 2 (numF tl tx 3 (-1) q).1, (numF tl tx 3 (-1) q).2 + 1) else none
def ashG (tl : Int) (tx : Int → Int) (r s : Int × Int) (D : KV) : Option (KV × Int) :=
  if (0 ≤ r.1 ∧ r.1 ≤ 500) ∧ sg tl tx r.2 = 32 ∧ (0 ≤ s.1 ∧ s.1 ≤ 9) ∧ sg tl tx s.2 = 59 ∧ D 7 0 ≠ 0 ∧ D 7 1 < 6 ∧ axK D (D 7 0) = -1 then some (insAK D (nxK D (D 7 0)) (D 7 0) r.1 s.1, s.2 + 1) else none
def ashF (tl : Int) (tx : Int → Int) (q : Int) (D : KV) : Option (KV × Int) := ashG tl tx (numF tl tx 3 (-1) q) (numF tl tx 3 (-1) ((numF tl tx 3 (-1) q).2 + 1)) D
def cmdF (tl : Int) (tx : Int → Int) (p : Int) (D : KV) : Option (KV × Int) :=
  if wdB tl tx (txtL 0) p = true then layF tl tx 0 (p + 6) D
  else if wdB tl tx (txtL 1) p = true then layF tl tx 1 (p + 6) D
  else if wdB tl tx (txtL 2) p = true then layF tl tx 2 (p + 6) D
  else if wdB tl tx (txtL 3) p = true then gapF tl tx (p + 4) D
  else if wdB tl tx (txtL 4) p = true then ashF tl tx (p + 4) D else none
def parF (tl : Int) (tx : Int → Int) : Nat → Int → KV → Int × KV
  | 0, _, D => (-4, D)
  | n + 1, p, D => if p < tl then (match cmdF tl tx p D with
    | none => (p, D)
    | some (D', p') => parF tl tx n p' D') else (-4, D)
theorem numF_b {tl : Int} {tx : Int → Int} : ∀ (n : Nat) (v p : Int), 0 ≤ p → p ≤ tl → -1 ≤ v → p ≤ (numF tl tx n v p).2 ∧ (numF tl tx n v p).2 ≤ tl ∧ -1 ≤ (numF tl tx n v p).1
  | 0, v, p, h0, h1, hv => ⟨Int.le_refl p, h1, hv⟩
  | n + 1, v, p, h0, h1, hv => by
    unfold numF
    by_cases q : 48 ≤ sg tl tx p ∧ sg tl tx p ≤ 57
    · rw [if_pos q]
      have hp : p < tl := by
        by_cases e : p < tl
        · exact e
        · have : sg tl tx p = -1 := if_neg e
          omega
      have ih := numF_b (tx := tx) n ((if v < 0 then 0 else 10 * v) + sg tl tx p - 48) (p + 1) (by omega) (by omega) (by split <;> omega)
      exact ⟨by omega, ih.2⟩
    · rw [if_neg q]
      exact ⟨Int.le_refl p, h1, hv⟩
theorem numF_t {tl : Int} {tx : Int → Int} (p : Int) : (numF tl tx 3 (-1) p).1 ≤ 999 := by
  simp only [numF]
  (repeat' split) <;> simp only [] <;> omega
theorem sg_in {tl : Int} {tx : Int → Int} {p c : Int} (h : sg tl tx p = c) (hc : 0 ≤ c) : p < tl := by
  by_cases e : p < tl
  · exact e
  · have : sg tl tx p = -1 := if_neg e
    omega
theorem wdB_in {tl : Int} {tx : Int → Int} : ∀ n : Nat, n < 5 → ∀ p, wdB tl tx (txtL n) p = true → p + ((txtL n).length : Int) ≤ tl := by
  intro n hn p h
  rcases (show n = 0 ∨ n = 1 ∨ n = 2 ∨ n = 3 ∨ n = 4 by omega) with e | e | e | e | e <;> subst e <;> simp only [txtL, wdB, Bool.and_eq_true, decide_eq_true_eq] at h
  all_goals sorry
