/-! A CORE AS A VALUE: rows 0 thickness, 1 kind, 2 missing, 3 place, 4 age, 5 uncertainty, 6 settings, each 0 outside its range; 7: how many layers, how many ashes -/
abbrev KV : Type := Nat → Int → Int
def mask (n : Int) (f : Int → Int) : Int → Int := fun j => if 0 ≤ j ∧ j < n then f j else 0
def cnt7 (n a : Int) : Int → Int := fun j => if j = 0 then n else if j = 1 then a else 0
def mkV (n a : Int) (f0 f1 f2 f3 f4 f5 f6 : Int → Int) : KV := fun k => match k with
  | 0 => mask n f0
  | 1 => mask n f1
  | 2 => mask n f2
  | 3 => mask a f3
  | 4 => mask a f4
  | 5 => mask a f5
  | 6 => mask 4 f6
  | 7 => cnt7 n a
  | _ => fun _ => 0
def vwC (σ : Sto) (c : Int) : KV := mkV (σ 16 c 7) (σ 16 c 8) (σ 17 c) (σ 18 c) (σ 19 c) (σ 20 c) (σ 21 c) (σ 22 c) (σ 23 c)
def insM (g : Int → Int) (i x : Int) : Int → Int := fun j => if j < i then g j else if j = i then x else g (j - 1)
def delM (g : Int → Int) (i : Int) : Int → Int := fun j => if j < i then g j else g (j + 1)
def upP (g : Int → Int) (i : Int) : Int → Int := fun j => if i < g j then g j + 1 else g j
def dnP (g : Int → Int) (i : Int) : Int → Int := fun j => if i < g j then g j - 1 else g j
def setM (g : Int → Int) (i x : Int) : Int → Int := fun j => if j = i then x else g j
def insK (K : KV) (i t k m : Int) : KV := fun q => match q with
  | 0 => insM (K 0) i t
  | 1 => insM (K 1) i k
  | 2 => insM (K 2) i m
  | 3 => upP (K 3) i
  | 7 => cnt7 (K 7 0 + 1) (K 7 1)
  | q => K q
def delAK (K : KV) (x : Int) : KV := fun q => match q with
  | 3 => delM (K 3) x
  | 4 => delM (K 4) x
  | 5 => delM (K 5) x
  | 7 => cnt7 (K 7 0) (K 7 1 - 1)
  | q => K q
def delLK (K : KV) (i : Int) : KV := fun q => match q with
  | 0 => delM (K 0) i
  | 1 => delM (K 1) i
  | 2 => delM (K 2) i
  | 3 => dnP (K 3) i
  | 7 => cnt7 (K 7 0 - 1) (K 7 1)
  | q => K q
def insAK (K : KV) (x p a u : Int) : KV := fun q => match q with
  | 3 => insM (K 3) x p
  | 4 => insM (K 4) x a
  | 5 => insM (K 5) x u
  | 7 => cnt7 (K 7 0) (K 7 1 + 1)
  | q => K q
/-- the ash at a place, or -1 -/
def axK (K : KV) (p : Int) : Int := ashIx (K 3) p (K 7 1).toNat 0
def remK (K : KV) (i : Int) : KV := if axK K (i + 1) ≠ -1 ∧ (i = 0 ∨ axK K i ≠ -1) then delLK (delAK K (axK K (i + 1))) i else delLK K i
theorem mask_in {n : Int} {f : Int → Int} {j : Int} (h0 : 0 ≤ j) (h1 : j < n) : mask n f j = f j := if_pos ⟨h0, h1⟩
theorem mask_cg {n : Int} {f g : Int → Int} (h : ∀ j, 0 ≤ j → j < n → f j = g j) : mask n f = mask n g := by
  funext j
  unfold mask
  split
  · rename_i q
    exact h j q.1 q.2
  · rfl
theorem mask_ins {n i x : Int} {f : Int → Int} (h0 : 0 ≤ i) (h1 : i ≤ n) : mask (n + 1) (insF f i n x) = insM (mask n f) i x := by
  funext j
  simp only [mask, insF, insM]
  ((repeat' split) <;> first | rfl | (exfalso; omega) | (congr 1; omega) | omega)
theorem mask_del {n i : Int} {f : Int → Int} (h0 : 0 ≤ i) (h1 : i < n) : mask (n - 1) (delF f i n) = delM (mask n f) i := by
  funext j
  simp only [mask, delF, delM]
  ((repeat' split) <;> first | rfl | (exfalso; omega) | (congr 1; omega) | omega)
theorem mask_up {n i : Int} {f : Int → Int} (h : 0 ≤ i) : mask n (fun j => if 0 ≤ j ∧ j < n ∧ i < f j then f j + 1 else f j) = upP (mask n f) i := by
  funext j
  simp only [mask, upP]
  ((repeat' split) <;> first | rfl | (exfalso; omega) | (congr 1; omega) | omega)
theorem mask_dn {n i : Int} {f : Int → Int} (h : 0 ≤ i) : mask n (fun j => if 0 ≤ j ∧ j < n ∧ i < f j then f j - 1 else f j) = dnP (mask n f) i := by
  funext j
  simp only [mask, dnP]
  ((repeat' split) <;> first | rfl | (exfalso; omega) | (congr 1; omega) | omega)
theorem mask_0 {f : Int → Int} : mask 0 f = fun _ => 0 := by
  funext j
  unfold mask
  rw [if_neg (by omega)]
theorem vw_n (σ : Sto) (c : Int) : vwC σ c 7 0 = σ 16 c 7 := rfl
theorem vw_a (σ : Sto) (c : Int) : vwC σ c 7 1 = σ 16 c 8 := rfl
theorem cnt_0 {n a : Int} : cnt7 n a 0 = n := rfl
theorem cnt_1 {n a : Int} : cnt7 n a 1 = a := rfl
theorem ashIx_cg {f g : Int → Int} {w : Int} : ∀ (n : Nat) (i : Int), (∀ j, i ≤ j → j < i + n → f j = g j) → ashIx f w n i = ashIx g w n i
  | 0, _, _ => rfl
  | n + 1, i, h => by
    unfold ashIx
    rw [h i (by omega) (by omega), ashIx_cg n (i + 1) (fun j h1 h2 => h j (by omega) (by omega))]
theorem ax_vw {σ : Sto} {c p : Int} : ashIx (σ 20 c) p (σ 16 c 8).toNat 0 = axK (vwC σ c) p := by
  unfold axK
  rw [vw_a]
  exact ashIx_cg _ _ fun j h1 h2 => (mask_in h1 (by omega)).symm
def offC (c : Int) (σ σ' : Sto) : Prop := ∀ (k : Nat) (i : Int), ¬ (16 ≤ k ∧ k ≤ 23 ∧ i = c) → σ' k i = σ k i
theorem offC.rf {c : Int} {σ : Sto} : offC c σ σ := fun _ _ _ => rfl
theorem offC.tr {c : Int} {σ σ' σ'' : Sto} (h1 : offC c σ σ') (h2 : offC c σ' σ'') : offC c σ σ'' := fun k i h => (h2 k i h).trans (h1 k i h)
theorem offC.set {c : Int} {σ σ' : Sto} (h1 : offC c σ σ') {k : Nat} {g : Int → Int} (hk : 16 ≤ k ∧ k ≤ 23) : offC c σ (setR σ' k c g) := fun k' i h => by
  rw [setR_ne (fun e => h ⟨by omega, by omega, e.2⟩)]
  exact h1 k' i h
theorem offC.up {c : Int} {σ σ' : Sto} (h1 : offC c σ σ') {k : Nat} {j v : Int} (hk : 16 ≤ k ∧ k ≤ 23) : offC c σ (upS σ' k c j v) := by
  rw [upS_setR]
  exact h1.set hk
theorem vwC_cg {σ σ' : Sto} {c : Int} (h : ∀ k, 16 ≤ k → k ≤ 23 → σ' k c = σ k c) : vwC σ' c = vwC σ c := by
  unfold vwC
  rw [h 16 (by omega) (by omega), h 17 (by omega) (by omega), h 18 (by omega) (by omega), h 19 (by omega) (by omega), h 20 (by omega) (by omega), h 21 (by omega) (by omega), h 22 (by omega) (by omega), h 23 (by omega) (by omega)]
theorem vwC_off {σ σ' : Sto} {c c' : Int} (h : offC c σ σ') (hc : c' ≠ c) : vwC σ' c' = vwC σ c' := vwC_cg fun k _ _ => h k c' fun e => hc e.2.2
theorem up_hit {σ : Sto} {k : Nat} {i j v : Int} : upS σ k i j v k i j = v := if_pos ⟨rfl, rfl, rfl⟩
theorem up_k {σ : Sto} {k k' : Nat} {i i' j v : Int} (h : k' ≠ k) : upS σ k i j v k' i' = σ k' i' := by
  funext j'
  exact if_neg fun e => h e.1
theorem up_j {σ : Sto} {k : Nat} {i j j' v : Int} (h : j' ≠ j) : upS σ k i j v k i j' = σ k i j' := if_neg fun e => h e.2.2
theorem up_i {σ : Sto} {k k' : Nat} {i i' j v : Int} (h : i' ≠ i) : upS σ k i j v k' i' = σ k' i' := by
  funext j'
  exact if_neg fun e => h e.2.1
theorem t_X0_layerProperties {d : Nat} (hd : 1 ≤ d) {σ : Sto} {Q : Post} {c w : Int} (hw : 0 ≤ w ∧ w ≤ 2) (h0 : w = 0 → Q (some (.inr (17, c))) σ) (h1 : w = 1 → Q (some (.inr (18, c))) σ) (h2 : w = 2 → Q (some (.inr (19, c))) σ) : WPd d m_X0_layerProperties [.inr (16, c), .inl w] σ Q := by
  obtain ⟨d, rfl⟩ : ∃ k, d = k + 1 := ⟨d - 1, by omega⟩
  intro P hP
  (refine go (t := tb_X0_layerProperties) (WPd_mono d) hP 30 [] ?_; (conv => whnf); (repeat' (first | (refine ⟨fun _ => ?_, fun _ => ?_⟩ <;> first | (exfalso; omega) | (conv => whnf)) | (refine ⟨by omega, ?_⟩; conv => whnf) | (intro _; conv => whnf))))
  all_goals first | exact h0 (by omega) | exact h1 (by omega) | exact h2 (by omega)
theorem t_X0_ashProperties {d : Nat} (hd : 1 ≤ d) {σ : Sto} {Q : Post} {c w : Int} (hw : 0 ≤ w ∧ w ≤ 2) (h0 : w = 0 → Q (some (.inr (20, c))) σ) (h1 : w = 1 → Q (some (.inr (21, c))) σ) (h2 : w = 2 → Q (some (.inr (22, c))) σ) : WPd d m_X0_ashProperties [.inr (16, c), .inl w] σ Q := by
  obtain ⟨d, rfl⟩ : ∃ k, d = k + 1 := ⟨d - 1, by omega⟩
  intro P hP
  (refine go (t := tb_X0_ashProperties) (WPd_mono d) hP 30 [] ?_; (conv => whnf); (repeat' (first | (refine ⟨fun _ => ?_, fun _ => ?_⟩ <;> first | (exfalso; omega) | (conv => whnf)) | (refine ⟨by omega, ?_⟩; conv => whnf) | (intro _; conv => whnf))))
  all_goals first | exact h0 (by omega) | exact h1 (by omega) | exact h2 (by omega)
theorem insK_mk {n a i t k m : Int} {f0 f1 f2 f3 f4 f5 f6 : Int → Int} (h0 : 0 ≤ i) (h1 : i ≤ n) : mkV (n + 1) a (insF f0 i n t) (insF f1 i n k) (insF f2 i n m) (fun j => if 0 ≤ j ∧ j < a ∧ i < f3 j then f3 j + 1 else f3 j) f4 f5 f6 = insK (mkV n a f0 f1 f2 f3 f4 f5 f6) i t k m := by
  funext q
  rcases q with _ | _ | _ | _ | _ | _ | _ | _ | q <;> first | exact mask_ins h0 h1 | exact mask_up h0 | rfl
theorem delLK_mk {n a i : Int} {f0 f1 f2 f3 f4 f5 f6 : Int → Int} (h0 : 0 ≤ i) (h1 : i < n) : mkV (n - 1) a (delF f0 i n) (delF f1 i n) (delF f2 i n) (fun j => if 0 ≤ j ∧ j < a ∧ i < f3 j then f3 j - 1 else f3 j) f4 f5 f6 = delLK (mkV n a f0 f1 f2 f3 f4 f5 f6) i := by
  funext q
  rcases q with _ | _ | _ | _ | _ | _ | _ | _ | q <;> first | exact mask_del h0 h1 | exact mask_dn h0 | rfl
theorem delAK_mk {n a x : Int} {f0 f1 f2 f3 f4 f5 f6 : Int → Int} (h0 : 0 ≤ x) (h1 : x < a) : mkV n (a - 1) f0 f1 f2 (delF f3 x a) (delF f4 x a) (delF f5 x a) f6 = delAK (mkV n a f0 f1 f2 f3 f4 f5 f6) x := by
  funext q
  rcases q with _ | _ | _ | _ | _ | _ | _ | _ | q <;> first | exact mask_del h0 h1 | rfl
theorem insAK_mk {n a x p e u : Int} {f0 f1 f2 f3 f4 f5 f6 : Int → Int} (h0 : 0 ≤ x) (h1 : x ≤ a) : mkV n (a + 1) f0 f1 f2 (insF f3 x a p) (insF f4 x a e) (insF f5 x a u) f6 = insAK (mkV n a f0 f1 f2 f3 f4 f5 f6) x p e u := by
  funext q
  rcases q with _ | _ | _ | _ | _ | _ | _ | _ | q <;> first | exact mask_ins h0 h1 | rfl
theorem t_X0_insertLayer {d : Nat} (hd : 2 ≤ d) {σ : Sto} {Q : Post} {c i t k m : Int} (hn : 0 ≤ σ 16 c 7 ∧ σ 16 c 7 < 50) (ha : 0 ≤ σ 16 c 8 ∧ σ 16 c 8 ≤ 6) (hi : 0 ≤ i ∧ i ≤ σ 16 c 7) (ht : inR t) (hk : inR k) (hm : inR m) (hp : ∀ j, 0 ≤ j → j < σ 16 c 8 → σ 20 c j ≤ 1000) (h : ∀ σ', vwC σ' c = insK (vwC σ c) i t k m → offC c σ σ' → Q none σ') : WPd d m_X0_insertLayer [.inr (16, c), .inl i, .inl t, .inl k, .inl m] σ Q := by
  obtain ⟨d, rfl⟩ : ∃ k, d = k + 1 := ⟨d - 1, by omega⟩
  intro P hP
  have L : ∀ (n : Nat) (j : Int) (τ : Sto), n = (σ 16 c 8 - j).toNat → 0 ≤ j → j ≤ σ 16 c 8 → τ 16 c 8 = σ 16 c 8 → τ 16 c 7 = σ 16 c 7 + 1 → τ 17 c = insF (σ 17 c) i (σ 16 c 7) t → τ 18 c = insF (σ 18 c) i (σ 16 c 7) k → τ 19 c = insF (σ 19 c) i (σ 16 c 7) m → τ 21 c = σ 21 c → τ 22 c = σ 22 c → τ 23 c = σ 23 c → offC c σ τ → (∀ x, τ 20 c x = if 0 ≤ x ∧ x < j ∧ i < σ 20 c x then σ 20 c x + 1 else σ 20 c x) → P 53 [.inr (16, c), .inl i, .inl t, .inl k, .inl m, .inl j] [] τ := by
    intro n
    induction n with
    | zero =>
      intro j τ hn0 h0 h1 e1 e2 e3 e4 e5 e6 e7 e8 e9 e10
      (refine go (t := tb_X0_insertLayer) (WPd_mono d) hP 40 [53] ?_; (conv => whnf); (repeat' (first | (refine ⟨fun _ => ?_, fun _ => ?_⟩ <;> first | (exfalso; omega) | (conv => whnf)) | (refine ⟨by omega, ?_⟩; conv => whnf) | (intro _; conv => whnf))))
      refine h τ ?_ e9
      have ej : j = σ 16 c 8 := by omega
      unfold vwC
      rw [e1, e2, e3, e4, e5, e6, e7, e8, show τ 20 c = _ from funext e10, ej]
      exact insK_mk hi.1 hi.2
    | succ n ih =>
      intro j τ hn0 h0 h1 e1 e2 e3 e4 e5 e6 e7 e8 e9 e10
      have ex := e10 j
      rw [if_neg (by omega)] at ex
      have hpj := hp j h0 (by omega)
      (refine go (t := tb_X0_insertLayer) (WPd_mono d) hP 40 [53] ?_; (conv => whnf); (repeat' (first | (refine ⟨fun _ => ?_, fun _ => ?_⟩ <;> first | (exfalso; omega) | (conv => whnf)) | (refine ⟨by omega, ?_⟩; conv => whnf) | (intro _; conv => whnf))))
      · exact ih (j + 1) τ (by omega) (by omega) (by omega) e1 e2 e3 e4 e5 e6 e7 e8 e9 (fun x => by
          rw [e10]
          by_cases q : x = j
          · subst q
            rw [if_neg (by omega), if_neg (by omega)]
          · ((repeat' split) <;> first | rfl | (exfalso; omega) | (congr 1; omega) | omega))
      · refine ih (j + 1) _ (by omega) (by omega) (by omega) (by rw [up_k (by decide)]; exact e1) (by rw [up_k (by decide)]; exact e2) (by rw [up_k (by decide)]; exact e3) (by rw [up_k (by decide)]; exact e4) (by rw [up_k (by decide)]; exact e5) (by rw [up_k (by decide)]; exact e6) (by rw [up_k (by decide)]; exact e7) (by rw [up_k (by decide)]; exact e8) (e9.up (by omega)) (fun x => ?_)
        by_cases q : x = j
        · subst q
          rw [up_hit, ex, if_pos (by omega)]
        · rw [up_j q, e10]
          ((repeat' split) <;> first | rfl | (exfalso; omega) | (congr 1; omega) | omega)
  (refine go (t := tb_X0_insertLayer) (WPd_mono d) hP 40 [53] ?_; (conv => whnf); (repeat' (first | (refine ⟨fun _ => ?_, fun _ => ?_⟩ <;> first | (exfalso; omega) | (conv => whnf)) | (refine ⟨by omega, ?_⟩; conv => whnf) | (intro _; conv => whnf))))
  refine t_X0_insertAt (len := 50) (by omega) rfl ht (by omega) (by omega) (by omega) (by omega) ?_
  ((conv => whnf); (repeat' (first | (refine ⟨fun _ => ?_, fun _ => ?_⟩ <;> first | (exfalso; omega) | (conv => whnf)) | (refine ⟨by omega, ?_⟩; conv => whnf) | (intro _; conv => whnf))))
  (try simp only [setR_same, setR_nk, upS_setR, cpS_setR, setR_setR, ne_eq, Nat.reduceEqDiff, not_false_eq_true, Int.reduceEq, ↓reduceIte])
  refine t_X0_insertAt (len := 50) (by omega) rfl hk (by omega) (by omega) (by omega) (by omega) ?_
  ((conv => whnf); (repeat' (first | (refine ⟨fun _ => ?_, fun _ => ?_⟩ <;> first | (exfalso; omega) | (conv => whnf)) | (refine ⟨by omega, ?_⟩; conv => whnf) | (intro _; conv => whnf))))
  (try simp only [setR_same, setR_nk, upS_setR, cpS_setR, setR_setR, ne_eq, Nat.reduceEqDiff, not_false_eq_true, Int.reduceEq, ↓reduceIte])
  refine t_X0_insertAt (len := 50) (by omega) rfl hm (by omega) (by omega) (by omega) (by omega) ?_
  ((conv => whnf); (repeat' (first | (refine ⟨fun _ => ?_, fun _ => ?_⟩ <;> first | (exfalso; omega) | (conv => whnf)) | (refine ⟨by omega, ?_⟩; conv => whnf) | (intro _; conv => whnf))))
  (try simp only [setR_same, setR_nk, upS_setR, cpS_setR, setR_setR, ne_eq, Nat.reduceEqDiff, not_false_eq_true, Int.reduceEq, ↓reduceIte])
  refine ⟨by omega, ?_⟩
  ((conv => whnf); (repeat' (first | (refine ⟨fun _ => ?_, fun _ => ?_⟩ <;> first | (exfalso; omega) | (conv => whnf)) | (refine ⟨by omega, ?_⟩; conv => whnf) | (intro _; conv => whnf))))
  (try simp only [setR_same, setR_nk, upS_setR, cpS_setR, setR_setR, ne_eq, Nat.reduceEqDiff, not_false_eq_true, Int.reduceEq, ↓reduceIte])
  refine L _ 0 _ rfl (by omega) (by omega) ?_ ?_ ?_ ?_ ?_ ?_ ?_ ?_ ?_ ?_
  all_goals first | ((try simp only [setR_same, setR_nk, upS_setR, cpS_setR, setR_setR, ne_eq, Nat.reduceEqDiff, not_false_eq_true, Int.reduceEq, ↓reduceIte]); done) | skip
  · exact (((offC.rf.set (by omega)).set (by omega)).set (by omega)).set (by omega)
  · intro x
    (try simp only [setR_same, setR_nk, upS_setR, cpS_setR, setR_setR, ne_eq, Nat.reduceEqDiff, not_false_eq_true, Int.reduceEq, ↓reduceIte])
    rw [if_neg (by omega)]
theorem t_X0_deleteAsh {d : Nat} (hd : 2 ≤ d) {σ : Sto} {Q : Post} {c x : Int} (ha : 0 ≤ σ 16 c 8 ∧ σ 16 c 8 ≤ 6) (hx : 0 ≤ x ∧ x < σ 16 c 8) (h : ∀ σ', vwC σ' c = delAK (vwC σ c) x → offC c σ σ' → (∀ k, k ≤ 19 → σ' k c = if k = 16 then (fun j' => if j' = 8 then σ 16 c 8 - 1 else σ 16 c j') else σ k c) → σ' 20 c = delF (σ 20 c) x (σ 16 c 8) → Q none σ') : WPd d m_X0_deleteAsh [.inr (16, c), .inl x] σ Q := by
  obtain ⟨d, rfl⟩ : ∃ k, d = k + 1 := ⟨d - 1, by omega⟩
  intro P hP
  (refine go (t := tb_X0_deleteAsh) (WPd_mono d) hP 40 [] ?_; (conv => whnf); (repeat' (first | (refine ⟨fun _ => ?_, fun _ => ?_⟩ <;> first | (exfalso; omega) | (conv => whnf)) | (refine ⟨by omega, ?_⟩; conv => whnf) | (intro _; conv => whnf))))
  refine t_X0_deleteAt (len := 6) (by omega) rfl (by omega) (by omega) (by omega) (by omega) ?_
  ((conv => whnf); (repeat' (first | (refine ⟨fun _ => ?_, fun _ => ?_⟩ <;> first | (exfalso; omega) | (conv => whnf)) | (refine ⟨by omega, ?_⟩; conv => whnf) | (intro _; conv => whnf))))
  (try simp only [setR_same, setR_nk, upS_setR, cpS_setR, setR_setR, ne_eq, Nat.reduceEqDiff, not_false_eq_true, Int.reduceEq, ↓reduceIte])
  refine t_X0_deleteAt (len := 6) (by omega) rfl (by omega) (by omega) (by omega) (by omega) ?_
  ((conv => whnf); (repeat' (first | (refine ⟨fun _ => ?_, fun _ => ?_⟩ <;> first | (exfalso; omega) | (conv => whnf)) | (refine ⟨by omega, ?_⟩; conv => whnf) | (intro _; conv => whnf))))
  (try simp only [setR_same, setR_nk, upS_setR, cpS_setR, setR_setR, ne_eq, Nat.reduceEqDiff, not_false_eq_true, Int.reduceEq, ↓reduceIte])
  refine t_X0_deleteAt (len := 6) (by omega) rfl (by omega) (by omega) (by omega) (by omega) ?_
  ((conv => whnf); (repeat' (first | (refine ⟨fun _ => ?_, fun _ => ?_⟩ <;> first | (exfalso; omega) | (conv => whnf)) | (refine ⟨by omega, ?_⟩; conv => whnf) | (intro _; conv => whnf))))
  (try simp only [setR_same, setR_nk, upS_setR, cpS_setR, setR_setR, ne_eq, Nat.reduceEqDiff, not_false_eq_true, Int.reduceEq, ↓reduceIte])
  refine ⟨by omega, ?_⟩
  ((conv => whnf); (repeat' (first | (refine ⟨fun _ => ?_, fun _ => ?_⟩ <;> first | (exfalso; omega) | (conv => whnf)) | (refine ⟨by omega, ?_⟩; conv => whnf) | (intro _; conv => whnf))))
  (try simp only [setR_same, setR_nk, upS_setR, cpS_setR, setR_setR, ne_eq, Nat.reduceEqDiff, not_false_eq_true, Int.reduceEq, ↓reduceIte])
  refine h _ ?_ ((((offC.rf.set (by omega)).set (by omega)).set (by omega)).set (by omega)) (fun k hk => ?_) ?_
  · unfold vwC
    (try simp only [setR_same, setR_nk, upS_setR, cpS_setR, setR_setR, ne_eq, Nat.reduceEqDiff, not_false_eq_true, Int.reduceEq, ↓reduceIte])
    exact delAK_mk hx.1 hx.2
  · by_cases q : k = 16
    · subst q
      (try simp only [setR_same, setR_nk, upS_setR, cpS_setR, setR_setR, ne_eq, Nat.reduceEqDiff, not_false_eq_true, Int.reduceEq, ↓reduceIte])
    · rw [setR_nk q, setR_nk (by omega), setR_nk (by omega), setR_nk (by omega), if_neg q]
  · (try simp only [setR_same, setR_nk, upS_setR, cpS_setR, setR_setR, ne_eq, Nat.reduceEqDiff, not_false_eq_true, Int.reduceEq, ↓reduceIte])
def sumF (f : Int → Int) : Nat → Int → Int
  | 0, _ => 0
  | n + 1, i => f i + sumF f n (i + 1)
def cntF (f : Int → Int) (w : Int) : Nat → Int → Int
  | 0, _ => 0
  | n + 1, i => (if f i = w then 1 else 0) + cntF f w n (i + 1)
theorem t_X0_thicknessBetween {d : Nat} (hd : 1 ≤ d) {σ : Sto} {Q : Post} {c u v : Int} (hu : 0 ≤ u ∧ u ≤ v ∧ v ≤ 50) (h : Q (some (.inl (sumF (σ 17 c) (v - u).toNat u))) σ) : WPd d m_X0_thicknessBetween [.inr (16, c), .inl u, .inl v] σ Q := by
  obtain ⟨d, rfl⟩ : ∃ k, d = k + 1 := ⟨d - 1, by omega⟩
  intro P hP
  have L : ∀ (n : Nat) (s i : Int), n = (v - i).toNat → 0 ≤ i → i ≤ v → Q (some (.inl (s + sumF (σ 17 c) n i))) σ → P 5 [.inr (16, c), .inl u, .inl v, .inl s, .inl i] [] σ := by
    intro n
    induction n with
    | zero =>
      intro s i hn0 h0 h1 hq
      (refine go (t := tb_X0_thicknessBetween) (WPd_mono d) hP 30 [5] ?_; (conv => whnf); (repeat' (first | (refine ⟨fun _ => ?_, fun _ => ?_⟩ <;> first | (exfalso; omega) | (conv => whnf)) | (refine ⟨by omega, ?_⟩; conv => whnf) | (intro _; conv => whnf))))
      rwa [sumF, Int.add_zero] at hq
    | succ n ih =>
      intro s i hn0 h0 h1 hq
      (refine go (t := tb_X0_thicknessBetween) (WPd_mono d) hP 30 [5] ?_; (conv => whnf); (repeat' (first | (refine ⟨fun _ => ?_, fun _ => ?_⟩ <;> first | (exfalso; omega) | (conv => whnf)) | (refine ⟨by omega, ?_⟩; conv => whnf) | (intro _; conv => whnf))))
      exact ih _ (i + 1) (by omega) (by omega) (by omega) (by rwa [sumF, ← Int.add_assoc] at hq)
  (refine go (t := tb_X0_thicknessBetween) (WPd_mono d) hP 30 [5] ?_; (conv => whnf); (repeat' (first | (refine ⟨fun _ => ?_, fun _ => ?_⟩ <;> first | (exfalso; omega) | (conv => whnf)) | (refine ⟨by omega, ?_⟩; conv => whnf) | (intro _; conv => whnf))))
  exact L _ 0 u rfl (by omega) (by omega) (by rwa [Int.zero_add])
theorem t_X0_layersOfKind {d : Nat} (hd : 1 ≤ d) {σ : Sto} {Q : Post} {c w : Int} (hw : inR w) (hn : 0 ≤ σ 16 c 7 ∧ σ 16 c 7 ≤ 50) (h : Q (some (.inl (cntF (σ 18 c) w (σ 16 c 7).toNat 0))) σ) : WPd d m_X0_layersOfKind [.inr (16, c), .inl w] σ Q := by
  obtain ⟨d, rfl⟩ : ∃ k, d = k + 1 := ⟨d - 1, by omega⟩
  intro P hP
  have L : ∀ (n : Nat) (s i : Int), n = (σ 16 c 7 - i).toNat → 0 ≤ i → i ≤ σ 16 c 7 → Q (some (.inl (s + cntF (σ 18 c) w n i))) σ → P 4 [.inr (16, c), .inl w, .inl s, .inl i] [] σ := by
    intro n
    induction n with
    | zero =>
      intro s i hn0 h0 h1 hq
      (refine go (t := tb_X0_layersOfKind) (WPd_mono d) hP 30 [4] ?_; (conv => whnf); (repeat' (first | (refine ⟨fun _ => ?_, fun _ => ?_⟩ <;> first | (exfalso; omega) | (conv => whnf)) | (refine ⟨by omega, ?_⟩; conv => whnf) | (intro _; conv => whnf))))
      rwa [cntF, Int.add_zero] at hq
    | succ n ih =>
      intro s i hn0 h0 h1 hq
      (refine go (t := tb_X0_layersOfKind) (WPd_mono d) hP 30 [4] ?_; (conv => whnf); (repeat' (first | (refine ⟨fun _ => ?_, fun _ => ?_⟩ <;> first | (exfalso; omega) | (conv => whnf)) | (refine ⟨by omega, ?_⟩; conv => whnf) | (intro _; conv => whnf))))
      · exact ih _ (i + 1) (by omega) (by omega) (by omega) (by rwa [cntF, if_neg (by assumption), Int.zero_add] at hq)
      · exact ih _ (i + 1) (by omega) (by omega) (by omega) (by rwa [cntF, if_pos (by assumption), ← Int.add_assoc] at hq)
  (refine go (t := tb_X0_layersOfKind) (WPd_mono d) hP 30 [4] ?_; (conv => whnf); (repeat' (first | (refine ⟨fun _ => ?_, fun _ => ?_⟩ <;> first | (exfalso; omega) | (conv => whnf)) | (refine ⟨by omega, ?_⟩; conv => whnf) | (intro _; conv => whnf))))
  exact L (σ 16 c 7).toNat 0 0 (by omega) (by omega) (by omega) (by rwa [Int.zero_add])
def takeK (A B : KV) : KV := fun q => match q with
  | 6 => B 6
  | q => A q
theorem mask_cp {n : Int} {f g : Int → Int} : mask n (fun j => if 0 ≤ j ∧ j < 0 + n then f (0 + (j - 0)) else g j) = mask n f := mask_cg fun j h0 h1 => by
  rw [if_pos (by omega)]
  congr 1
  omega
theorem t_X0_takeLayersAndAshes {d : Nat} (hd : 1 ≤ d) {σ : Sto} {Q : Post} {c c2 : Int} (hc : c2 ≠ c) (hn : 0 ≤ σ 16 c2 7 ∧ σ 16 c2 7 ≤ 50) (ha : 0 ≤ σ 16 c2 8 ∧ σ 16 c2 8 ≤ 6) (h : ∀ σ', vwC σ' c = takeK (vwC σ c2) (vwC σ c) → offC c σ σ' → Q none σ') : WPd d m_X0_takeLayersAndAshes [.inr (16, c), .inr (16, c2)] σ Q := by
  obtain ⟨d, rfl⟩ : ∃ k, d = k + 1 := ⟨d - 1, by omega⟩
  intro P hP
  (refine go (t := tb_X0_takeLayersAndAshes) (WPd_mono d) hP 80 [] ?_; (conv => whnf); (repeat' (first | (refine ⟨fun _ => ?_, fun _ => ?_⟩ <;> first | (exfalso; omega) | (conv => whnf)) | (refine ⟨by omega, ?_⟩; conv => whnf) | (intro _; conv => whnf))))
  (try simp only [setR_ni hc, setR_same, setR_nk, upS_setR, cpS_setR, setR_setR, ne_eq, Nat.reduceEqDiff, not_false_eq_true, Int.reduceEq, ↓reduceIte])
  refine ⟨by omega, ?_⟩
  ((conv => whnf); (repeat' (first | (refine ⟨fun _ => ?_, fun _ => ?_⟩ <;> first | (exfalso; omega) | (conv => whnf)) | (refine ⟨by omega, ?_⟩; conv => whnf) | (intro _; conv => whnf))))
  (try simp only [setR_ni hc, setR_same, setR_nk, upS_setR, cpS_setR, setR_setR, ne_eq, Nat.reduceEqDiff, not_false_eq_true, Int.reduceEq, ↓reduceIte])
  refine ⟨by omega, ?_⟩
  ((conv => whnf); (repeat' (first | (refine ⟨fun _ => ?_, fun _ => ?_⟩ <;> first | (exfalso; omega) | (conv => whnf)) | (refine ⟨by omega, ?_⟩; conv => whnf) | (intro _; conv => whnf))))
  (try simp only [setR_ni hc, setR_same, setR_nk, upS_setR, cpS_setR, setR_setR, ne_eq, Nat.reduceEqDiff, not_false_eq_true, Int.reduceEq, ↓reduceIte])
  refine ⟨by omega, ?_⟩
  ((conv => whnf); (repeat' (first | (refine ⟨fun _ => ?_, fun _ => ?_⟩ <;> first | (exfalso; omega) | (conv => whnf)) | (refine ⟨by omega, ?_⟩; conv => whnf) | (intro _; conv => whnf))))
  (try simp only [setR_ni hc, setR_same, setR_nk, upS_setR, cpS_setR, setR_setR, ne_eq, Nat.reduceEqDiff, not_false_eq_true, Int.reduceEq, ↓reduceIte])
  refine ⟨by omega, ?_⟩
  ((conv => whnf); (repeat' (first | (refine ⟨fun _ => ?_, fun _ => ?_⟩ <;> first | (exfalso; omega) | (conv => whnf)) | (refine ⟨by omega, ?_⟩; conv => whnf) | (intro _; conv => whnf))))
  (try simp only [setR_ni hc, setR_same, setR_nk, upS_setR, cpS_setR, setR_setR, ne_eq, Nat.reduceEqDiff, not_false_eq_true, Int.reduceEq, ↓reduceIte])
  refine ⟨by omega, ?_⟩
  ((conv => whnf); (repeat' (first | (refine ⟨fun _ => ?_, fun _ => ?_⟩ <;> first | (exfalso; omega) | (conv => whnf)) | (refine ⟨by omega, ?_⟩; conv => whnf) | (intro _; conv => whnf))))
  (try simp only [setR_ni hc, setR_same, setR_nk, upS_setR, cpS_setR, setR_setR, ne_eq, Nat.reduceEqDiff, not_false_eq_true, Int.reduceEq, ↓reduceIte])
  refine ⟨by omega, ?_⟩
  ((conv => whnf); (repeat' (first | (refine ⟨fun _ => ?_, fun _ => ?_⟩ <;> first | (exfalso; omega) | (conv => whnf)) | (refine ⟨by omega, ?_⟩; conv => whnf) | (intro _; conv => whnf))))
  (try simp only [setR_ni hc, setR_same, setR_nk, upS_setR, cpS_setR, setR_setR, ne_eq, Nat.reduceEqDiff, not_false_eq_true, Int.reduceEq, ↓reduceIte])
  refine h _ ?_ ((((((((offC.rf.set (by omega)).set (by omega)).set (by omega)).set (by omega)).set (by omega)).set (by omega)).set (by omega)).set (by omega))
  unfold vwC
  (try simp only [setR_ni hc, setR_same, setR_nk, upS_setR, cpS_setR, setR_setR, ne_eq, Nat.reduceEqDiff, not_false_eq_true, Int.reduceEq, ↓reduceIte])
  funext q
  rcases q with _ | _ | _ | _ | _ | _ | _ | _ | q <;> first | exact mask_cp | rfl
