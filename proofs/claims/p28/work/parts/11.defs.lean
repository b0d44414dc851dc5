/-! WHAT IS COUNTED: counts of a core as paths, their costs; the state of the class and of the model as one value -/
def acK (K : KV) (p a : Int) : Option Int := if axK K p = -1 then some 0 else if K 5 (axK K p) < dif a (K 4 (axK K p)) then none else some (dif a (K 4 (axK K p)) * K 6 3)
abbrev oK (K : KV) (p o : Int) : Int := oCst (K 1 p) o (K 6 0) (K 6 1)
/-- the costs of what can follow from an age of a place on, m layers long, ashes below it included -/
def cont (K : KV) (ac : Int → Int → Option Int) (B : Int) : Nat → Int → Int → Int → Prop
  | 0, _, _, c => c = 0
  | m + 1, p, a, c => ∃ o g w c', (lo (K 1 p) ≤ o ∧ o ≤ hi (K 1 p)) ∧ (0 ≤ g ∧ g ≤ K 2 p) ∧ a + o + g ≤ B ∧ ac (p + 1) (a + o + g) = some w ∧ cont K ac B m (p + 1) (a + o + g) c' ∧ c = oK K p o + g * K 6 2 + w + c'
/-- the costs of what can lead from the top to an age of a place, ashes above it included -/
def pre (K : KV) (ac : Int → Int → Option Int) (B : Int) : Nat → Int → Int → Prop
  | 0, a, c => a = 0 ∧ c = 0
  | p + 1, a, c => ∃ o g w c' a', (lo (K 1 p) ≤ o ∧ o ≤ hi (K 1 p)) ∧ (0 ≤ g ∧ g ≤ K 2 p) ∧ a = a' + o + g ∧ a ≤ B ∧ ac p a' = some w ∧ pre K ac B p a' c' ∧ c = c' + w + oK K p o + g * K 6 2
/-- v is the least of S, N or more if S is empty -/
def Mn (S : Int → Prop) (N v : Int) : Prop := (∀ c, S c → v ≤ c) ∧ ((v = N ∧ ∀ c, ¬ S c) ∨ (v < N ∧ S v))
def old (K : KV) : Int := min 600 (sumF (fun i => hi (K 1 i) + K 2 i) (K 7 0).toNat 0)
/-- the least cost goes through these years of the layer -/
def thr (K : KV) (ac : Int → Int → Option Int) (B : Int) (m : Nat) (p a o g : Int) : Prop := (lo (K 1 p) ≤ o ∧ o ≤ hi (K 1 p)) ∧ (0 ≤ g ∧ g ≤ K 2 p) ∧ a + o + g ≤ B ∧ ∃ w c', ac (p + 1) (a + o + g) = some w ∧ cont K ac B m (p + 1) (a + o + g) c' ∧ ∀ c, cont K ac B (m + 1) p a c → oK K p o + g * K 6 2 + w + c' ≤ c
def PkL (K : KV) (ac : Int → Int → Option Int) (B : Int) (m : Nat) (p a o g : Int) : Prop := thr K ac B m p a o g ∧ ∀ o' g', thr K ac B m p a o' g' → o + g < o' + g' ∨ (o + g = o' + g' ∧ o ≤ o')
def Bst (K : KV) (ac : Int → Int → Option Int) (B : Int) (A O G : Int → Int) : Prop := A 0 = 0 ∧ ∀ p, 0 ≤ p → p < K 7 0 → PkL K ac B (K 7 0 - p - 1).toNat p (A p) (O p) (G p) ∧ A (p + 1) = A p + O p + G p
def sumN (f : Nat → Nat) : Nat → Nat
  | 0 => 0
  | n + 1 => sumN f n + f n
noncomputable def nW (K : KV) (ac : Int → Int → Option Int) (B : Int) : Nat → Int → Int → Nat
  | 0, _, _ => 1
  | m + 1, p, a => sumN (fun o => sumN (fun g => @ite _ (thr K ac B m p a o g) (Classical.propDecidable _) (nW K ac B m (p + 1) (a + o + g)) 0) 21) 3
def WFK (K : KV) : Prop := (0 ≤ K 7 0 ∧ K 7 0 ≤ 50) ∧ (0 ≤ K 7 1 ∧ K 7 1 ≤ 6) ∧ (∀ j, 0 ≤ j → j < K 7 0 → (1 ≤ K 0 j ∧ K 0 j ≤ 99) ∧ (0 ≤ K 1 j ∧ K 1 j ≤ 2) ∧ (0 ≤ K 2 j ∧ K 2 j ≤ 20)) ∧ (∀ j, 0 ≤ j → j < K 7 1 → (1 ≤ K 3 j ∧ K 3 j ≤ K 7 0) ∧ (0 ≤ K 4 j ∧ K 4 j ≤ 500) ∧ (0 ≤ K 5 j ∧ K 5 j ≤ 9)) ∧ (∀ i j, 0 ≤ i → i < j → j < K 7 1 → K 3 i < K 3 j) ∧ (∀ j, 0 ≤ j → j < 4 → 0 ≤ K 6 j ∧ K 6 j ≤ 50)
def BelOk (σ : Sto) (K : KV) : Prop := σ 3 0 11 = old K ∧ (∀ p a, 0 ≤ p → p ≤ K 7 0 → 0 ≤ a → a ≤ old K → Mn (cont K (acK K) (old K) (K 7 0 - p).toNat p a) 268435456 (σ 25 p a)) ∧ (σ 25 0 0 < 268435456 → Bst K (acK K) (old K) (σ 15 0) (σ 13 0) (σ 14 0))
def AbvOk (σ : Sto) (K : KV) : Prop := ∀ p a, 0 ≤ p → p ≤ K 7 0 → 0 ≤ a → a ≤ old K → Mn (pre K (acK K) (old K) p.toNat a) 268435456 (σ 24 p a)
def RecOk (σ : Sto) (K : KV) : Prop := (σ 3 0 12 = 0 ∨ σ 3 0 12 = 1) ∧ (σ 3 0 13 = 0 ∨ σ 3 0 13 = 1) ∧ (σ 3 0 12 = 1 → BelOk σ K) ∧ (σ 3 0 13 = 1 → σ 3 0 12 = 1 ∧ AbvOk σ K) ∧ (σ 3 0 14 = -1 ∨ (σ 3 0 12 = 1 ∧ σ 25 0 0 < 268435456 ∧ σ 3 0 14 = min 1000000 (nW K (acK K) (old K) (K 7 0).toNat 0 0 : Int)))
def HistR (σ : Sto) (h : Int) (HK : Int → KV) : Prop := σ 1 0 2 = h ∧ (0 ≤ h ∧ h ≤ 6) ∧ (0 ≤ σ 1 0 1 ∧ σ 1 0 1 < 6) ∧ ∀ s, 0 ≤ s → s < h → vwC σ (2 + (σ 1 0 1 - h + s) % 6) = HK s ∧ WFK (HK s)
def TxtR (σ : Sto) (tl : Int) (tx : Int → Int) : Prop := σ 2 0 2 = tl ∧ (0 ≤ tl ∧ tl ≤ 90) ∧ ∀ j, 0 ≤ j → j < tl → σ 5 0 j = tx j ∧ (32 ≤ tx j ∧ tx j ≤ 126)
def ClassR (σ : Sto) (K : KV) (h : Int) (HK : Int → KV) (tl : Int) (tx : Int → Int) : Prop := vwC σ 0 = K ∧ WFK K ∧ HistR σ h HK ∧ TxtR σ tl tx ∧ RecOk σ K
def pushH (h : Int) (HK : Int → KV) (K : KV) : Int → KV := fun s => if h = 6 then (if s < 5 then HK (s + 1) else K) else (if s < h then HK s else K)
theorem RecOk_0 {σ : Sto} {K : KV} (h1 : σ 3 0 12 = 0) (h2 : σ 3 0 13 = 0) (h3 : σ 3 0 14 = -1) : RecOk σ K := ⟨Or.inl h1, Or.inl h2, fun q => by omega, fun q => by omega, Or.inl h3⟩
theorem RecOk_off {σ σ' : Sto} {K : KV} (h : RecOk σ K) (ho : ∀ k i, (k = 3 ∨ k = 13 ∨ k = 14 ∨ k = 15 ∨ k = 24 ∨ k = 25) → σ' k i = σ k i) : RecOk σ' K := by
  unfold RecOk BelOk AbvOk at h ⊢
  rw [ho 3 0 (by omega), ho 13 0 (by omega), ho 14 0 (by omega), ho 15 0 (by omega), ho 25 0 (by omega)]
  simp only [ho 24 _ (by omega), ho 25 _ (by omega)]
  exact h
theorem HistR_off {σ σ' : Sto} {h : Int} {HK : Int → KV} (hh : HistR σ h HK) (ho : ∀ k i, (k = 1 ∨ (16 ≤ k ∧ k ≤ 23 ∧ 2 ≤ i)) → σ' k i = σ k i) : HistR σ' h HK := by
  obtain ⟨h1, h2, h3, h4⟩ := hh
  have e : σ' 1 0 = σ 1 0 := ho 1 0 (Or.inl rfl)
  refine ⟨by rw [e]; exact h1, h2, by rw [e]; exact h3, fun s s0 s1 => ?_⟩
  rw [e, vwC_cg (σ := σ) (fun k k0 k1 => ho k _ (Or.inr ⟨k0, k1, by omega⟩))]
  exact h4 s s0 s1
theorem TxtR_off {σ σ' : Sto} {tl : Int} {tx : Int → Int} (h : TxtR σ tl tx) (ho : ∀ k i, (k = 2 ∨ k = 5) → σ' k i = σ k i) : TxtR σ' tl tx := by
  unfold TxtR at h ⊢
  rw [ho 2 0 (by omega), ho 5 0 (by omega)]
  exact h
theorem HistR_push {σ σ' : Sto} {h : Int} {HK : Int → KV} (hh : HistR σ h HK) (hw : WFK (vwC σ 0)) (e1 : σ' 1 0 1 = (if σ 1 0 1 = 5 then 0 else σ 1 0 1 + 1)) (e2 : σ' 1 0 2 = min 6 (σ 1 0 2 + 1)) (e3 : vwC σ' (2 + σ 1 0 1) = vwC σ 0) (ho : ∀ k i, k ≠ 1 → ¬ (16 ≤ k ∧ k ≤ 23 ∧ i = 2 + σ 1 0 1) → σ' k i = σ k i) : HistR σ' (min 6 (h + 1)) (pushH h HK (vwC σ 0)) := by
  obtain ⟨h1, h2, h3, h4⟩ := hh
  have hnx : σ' 1 0 1 = (σ 1 0 1 + 1) % 6 := by
    rw [e1]
    split <;> omega
  have old' : ∀ c, 2 ≤ c → c ≠ 2 + σ 1 0 1 → vwC σ' c = vwC σ c := fun c c0 c1 => vwC_cg fun k k0 k1 => ho k c (by omega) (fun e => c1 e.2.2)
  refine ⟨by rw [e2, h1], by omega, by omega, fun s s0 s1 => ?_⟩
  unfold pushH
  by_cases q : h = 6
  · rw [if_pos q]
    by_cases q2 : s < 5
    · rw [if_pos q2, show (2 + (σ' 1 0 1 - min 6 (h + 1) + s) % 6) = 2 + (σ 1 0 1 - h + (s + 1)) % 6 by omega, old' _ (by omega) (by omega)]
      exact h4 (s + 1) (by omega) (by omega)
    · rw [if_neg q2, show (2 + (σ' 1 0 1 - min 6 (h + 1) + s) % 6) = 2 + σ 1 0 1 by omega]
      exact ⟨e3, hw⟩
  · rw [if_neg q]
    by_cases q2 : s < h
    · rw [if_pos q2, show (2 + (σ' 1 0 1 - min 6 (h + 1) + s) % 6) = 2 + (σ 1 0 1 - h + s) % 6 by omega, old' _ (by omega) (by omega)]
      exact h4 s s0 q2
    · rw [if_neg q2, show (2 + (σ' 1 0 1 - min 6 (h + 1) + s) % 6) = 2 + σ 1 0 1 by omega]
      exact ⟨e3, hw⟩
theorem HistR_pop {σ σ' : Sto} {h : Int} {HK : Int → KV} (hh : HistR σ h HK) (hp : 0 < h) {x : Int} (hx : x = if σ 1 0 1 = 0 then 5 else σ 1 0 1 - 1) (e1 : σ' 1 0 1 = x) (e2 : σ' 1 0 2 = σ 1 0 2 - 1) (ho : ∀ k i, k ≠ 1 → ¬ (16 ≤ k ∧ k ≤ 23 ∧ i = 0) → σ' k i = σ k i) : HistR σ' (h - 1) HK ∧ vwC σ (2 + x) = HK (h - 1) ∧ WFK (HK (h - 1)) := by
  obtain ⟨h1, h2, h3, h4⟩ := hh
  have hx2 : x = (σ 1 0 1 - 1) % 6 := by
    rw [hx]
    split <;> omega
  refine ⟨⟨by rw [e2, h1], by omega, by omega, fun s s0 s1 => ?_⟩, ?_⟩
  · rw [show (2 + (σ' 1 0 1 - (h - 1) + s) % 6) = 2 + (σ 1 0 1 - h + s) % 6 by omega, vwC_cg (σ := σ) (fun k k0 k1 => ho k _ (by omega) (by omega))]
    exact h4 s s0 (by omega)
  · have := h4 (h - 1) (by omega) (by omega)
    rw [show (2 + (σ 1 0 1 - h + (h - 1)) % 6) = 2 + x by omega] at this
    exact this
