/-! THE PROPERTY: what other cores cost -/
theorem cont_mono {K K' : KV} {ac ac' : acT} {B : Int} (hk : K' 1 = K 1) (hs : K' 6 = K 6) (hm : ∀ p, K 2 p ≤ K' 2 p) : ∀ (m : Nat) (p a c : Int), (∀ q x w, p < q → q ≤ p + m → ac q x = some w → ∃ w', ac' q x = some w' ∧ w' ≤ w) → cont K ac B m p a c → ∃ c', cont K' ac' B m p a c' ∧ c' ≤ c
  | 0, _, _, c, _, h => ⟨c, h, Int.le_refl _⟩
  | m + 1, p, a, c, hc, h => by
    obtain ⟨o, g, w, c', ho, hg, hb, hw, hc', e⟩ := h
    obtain ⟨c2, i1, i2⟩ := cont_mono hk hs hm m (p + 1) _ c' (fun q x w q0 q1 => hc q x w (by omega) (by omega)) hc'
    obtain ⟨w', e1, e2⟩ := hc _ _ _ (by omega) (by omega) hw
    have hm := hm p
    refine ⟨oK K' p o + g * K' 6 2 + w' + c2, ⟨o, g, w', c2, by rw [hk]; exact ho, by omega, hb, e1, i1, rfl⟩, ?_⟩
    show oCst (K' 1 p) o (K' 6 0) (K' 6 1) + g * K' 6 2 + w' + c2 ≤ c
    rw [hk, hs]
    have e : c = oCst (K 1 p) o (K 6 0) (K 6 1) + g * K 6 2 + w + c' := e
    omega
theorem cont_same {K K' : KV} {ac : acT} {B : Int} (hk : K' 1 = K 1) (hs : K' 6 = K 6) (hm : K' 2 = K 2) : ∀ (m : Nat) (p a c : Int), cont K' ac B m p a c ↔ cont K ac B m p a c
  | 0, _, _, _ => Iff.rfl
  | m + 1, p, a, c => by
    have eo : ∀ o, oK K' p o = oK K p o := fun o => by
      show oCst (K' 1 p) o (K' 6 0) (K' 6 1) = oCst (K 1 p) o (K 6 0) (K 6 1)
      rw [hk, hs]
    constructor
    · rintro ⟨o, g, w, c', ho, hg, hb, hw, hc, e⟩
      rw [hk] at ho
      rw [hm] at hg
      rw [eo, hs] at e
      exact ⟨o, g, w, c', ho, hg, hb, hw, (cont_same hk hs hm m (p + 1) _ c').1 hc, e⟩
    · rintro ⟨o, g, w, c', ho, hg, hb, hw, hc, e⟩
      rw [← eo, ← hs] at e
      exact ⟨o, g, w, c', by rw [hk]; exact ho, by rw [hm]; exact hg, hb, hw, (cont_same hk hs hm m (p + 1) _ c').2 hc, e⟩
/-- what cost() answers -/
def cst (K : KV) (v : Int) : Prop := (v = -4 ∧ ∀ c, ¬ CS K c) ∨ isL (CS K) v
theorem cst_u {K : KV} {v w : Int} (h : cst K v) (h' : cst K w) : v = w := by
  rcases h with ⟨a, b⟩ | a <;> rcases h' with ⟨a', b'⟩ | a'
  · omega
  · exact absurd a'.1 (b w)
  · exact absurd a.1 (b' v)
  · exact isL_u a a'
theorem cst_b {K : KV} (hK : WFK K) {v : Int} (h : cst K v) : -4 ≤ v ∧ v < 4000000 := by
  rcases h with ⟨a, b⟩ | a
  · omega
  · have := CS_b hK a.1
    omega
theorem cst_0 {K : KV} (hK : WFK K) {v : Int} (h : cst K v) : (0 ≤ v → isL (CS K) v) ∧ (v < 0 → v = -4 ∧ ∀ c, ¬ CS K c) := by
  refine ⟨fun q => ?_, fun q => ?_⟩
  · rcases h with ⟨a, b⟩ | a
    · omega
    · exact a
  · rcases h with a | a
    · exact a
    · have := CS_b hK a.1
      omega
/-- where a core's counts are no dearer ones of another -/
theorem cst_le {K K' : KV} (hK' : WFK K') {v v' : Int} (h : isL (CS K) v) (hm : ∀ c, CS K c → ∃ c', CS K' c' ∧ c' ≤ c) (h' : cst K' v') : 0 ≤ v' ∧ v' ≤ v := by
  obtain ⟨c', h1, h2⟩ := hm v h.1
  rcases h' with ⟨a, b⟩ | a
  · exact absurd h1 (b c')
  · have := a.2 c' h1
    have := CS_b hK' a.1
    omega
theorem ac_del {K : KV} (hK : WFK K) {x : Int} (h0 : 0 ≤ x) (h1 : x < K 7 1) : acK (delAK K x) = acB0 K x 0 := by
  have hK' := WFK_delA hK ⟨h0, h1⟩
  have n' : delAK K x 7 1 = K 7 1 - 1 := rfl
  have d3 : ∀ j, delAK K x 3 j = if j < x then K 3 j else K 3 (j + 1) := fun j => rfl
  have d4 : ∀ j, delAK K x 4 j = if j < x then K 4 j else K 4 (j + 1) := fun j => rfl
  have d5 : ∀ j, delAK K x 5 j = if j < x then K 5 j else K 5 (j + 1) := fun j => rfl
  funext q b
  rcases axK_of (delAK K x) q hK'.2.1.1 with ⟨a, no⟩ | ⟨a0, a1, a2⟩
  · have z : axK K q = -1 ∨ axK K q = x := by
      rcases axK_of K q hK.2.1.1 with ⟨a', _⟩ | ⟨b0, b1, b2⟩
      · exact Or.inl a'
      · refine Or.inr ?_
        by_cases c : axK K q < x
        · have := no (axK K q) b0 (by omega)
          rw [d3, if_pos c] at this
          exact absurd b2 this
        · by_cases c2 : x < axK K q
          · have := no (axK K q - 1) (by omega) (by omega)
            rw [d3, if_neg (by omega), show axK K q - 1 + 1 = axK K q by omega] at this
            exact absurd b2 this
          · omega
    unfold acK acB0
    rw [if_pos a, if_pos z]
  · obtain ⟨y, hy⟩ : ∃ y, y = if axK (delAK K x) q < x then axK (delAK K x) q else axK (delAK K x) q + 1 := ⟨_, rfl⟩
    have yb : 0 ≤ y ∧ y < K 7 1 ∧ y ≠ x := by
      rw [hy]
      split <;> omega
    have e3 : K 3 y = q := by
      rw [d3] at a2
      rw [hy]
      split at a2
      · rename_i c
        rw [if_pos c]
        exact a2
      · rename_i c
        rw [if_neg c]
        exact a2
    have ey : axK K q = y := by
      rw [← e3]
      exact axK_at hK yb.1 yb.2.1
    have e4 : delAK K x 4 (axK (delAK K x) q) = K 4 y := by
      rw [d4, hy]
      split <;> rfl
    have e5 : delAK K x 5 (axK (delAK K x) q) = K 5 y := by
      rw [d5, hy]
      split <;> rfl
    have e6 : delAK K x 6 3 = K 6 3 := rfl
    unfold acK acB0
    rw [if_neg (by omega), e4, e5, e6, ey, if_neg (show ¬ (y = -1 ∨ y = x) by omega), Int.add_zero]
theorem CS_del {K : KV} (hK : WFK K) {x : Int} (h0 : 0 ≤ x) (h1 : x < K 7 1) (c : Int) : CS (delAK K x) c ↔ CSw K x c := by
  unfold CS CSw
  rw [ac_del hK h0 h1]
  exact cont_same (K := K) (K' := delAK K x) rfl rfl rfl _ 0 0 c
theorem CS_del_le {K : KV} (hK : WFK K) {x : Int} (h0 : 0 ≤ x) (h1 : x < K 7 1) {c : Int} (h : CS K c) : ∃ c', CS (delAK K x) c' ∧ c' ≤ c := by
  have hb := acK_b hK
  refine cont_mono (K := K) (K' := delAK K x) rfl rfl (fun p => Int.le_refl _) _ 0 0 c (fun q a w _ _ hw => ?_) h
  rw [ac_del hK h0 h1]
  have b := hb q a w hw
  unfold acK at hw
  unfold acB0
  by_cases z : axK K q = -1 ∨ axK K q = x
  · rw [if_pos z]
    exact ⟨0, rfl, b.1⟩
  · rw [if_neg (fun e => z (Or.inl e))] at hw
    rw [if_neg z, Int.add_zero]
    exact ⟨w, hw, Int.le_refl _⟩
theorem cst_del {K : KV} (hK : WFK K) {x : Int} (h0 : 0 ≤ x) (h1 : x < K 7 1) {v : Int} : ((v = -4 ∧ ∀ c, ¬ CSw K x c) ∨ isL (CSw K x) v) → cst (delAK K x) v := by
  rintro (⟨a, b⟩ | ⟨a, b⟩)
  · exact Or.inl ⟨a, fun c hc => b c ((CS_del hK h0 h1 c).1 hc)⟩
  · exact Or.inr ⟨(CS_del hK h0 h1 v).2 a, fun c hc => b c ((CS_del hK h0 h1 c).1 hc)⟩
/-- one more ash -/
theorem ac_ins {K : KV} (hK : WFK K) {p a u : Int} (hn : K 7 1 < 6) (hp : 1 ≤ p ∧ p ≤ K 7 0) (ha : 0 ≤ a ∧ a ≤ 500) (hu : 0 ≤ u ∧ u ≤ 9) (hx : axK K p = -1) : (∀ q b, q ≠ p → acK (insAK K (nxK K p) p a u) q b = acK K q b) ∧ ∀ b, acK (insAK K (nxK K p) p a u) p b = if u < dif b a then none else some (dif b a * K 6 3) := by
  have hK' := WFK_insA hK hn hp ha hu hx
  obtain ⟨nb, -, -⟩ := nxK_cut hK p
  generalize nxK K p = x at *
  have n' : insAK K x p a u 7 1 = K 7 1 + 1 := rfl
  have d3 : ∀ j, insAK K x p a u 3 j = if j < x then K 3 j else if j = x then p else K 3 (j - 1) := fun j => rfl
  have d4 : ∀ j, insAK K x p a u 4 j = if j < x then K 4 j else if j = x then a else K 4 (j - 1) := fun j => rfl
  have d5 : ∀ j, insAK K x p a u 5 j = if j < x then K 5 j else if j = x then u else K 5 (j - 1) := fun j => rfl
  have e6 : insAK K x p a u 6 3 = K 6 3 := rfl
  refine ⟨fun q b hq => ?_, fun b => ?_⟩
  · rcases axK_of (insAK K x p a u) q hK'.2.1.1 with ⟨z, no⟩ | ⟨a0, a1, a2⟩
    · have z2 : axK K q = -1 := by
        rcases axK_of K q hK.2.1.1 with ⟨a', _⟩ | ⟨b0, b1, b2⟩
        · exact a'
        · exfalso
          by_cases c : axK K q < x
          · have := no (axK K q) b0 (by omega)
            rw [d3, if_pos c] at this
            exact this b2
          · have := no (axK K q + 1) (by omega) (by omega)
            rw [d3, if_neg (by omega), if_neg (by omega), show axK K q + 1 - 1 = axK K q by omega] at this
            exact this b2
      unfold acK
      rw [if_pos z, if_pos z2]
    · have ne : axK (insAK K x p a u) q ≠ x := fun e => by
        rw [e, d3, if_neg (by omega), if_pos rfl] at a2
        exact hq a2.symm
      obtain ⟨y, hy⟩ : ∃ y, y = if axK (insAK K x p a u) q < x then axK (insAK K x p a u) q else axK (insAK K x p a u) q - 1 := ⟨_, rfl⟩
      have yb : 0 ≤ y ∧ y < K 7 1 := by
        rw [hy]
        split <;> omega
      have e3 : K 3 y = q := by
        rw [d3, if_neg ne] at a2
        rw [hy]
        split at a2
        · rename_i c
          rw [if_pos c]
          exact a2
        · rename_i c
          rw [if_neg c]
          exact a2
      have ey : axK K q = y := by
        rw [← e3]
        exact axK_at hK yb.1 yb.2
      have e4 : insAK K x p a u 4 (axK (insAK K x p a u) q) = K 4 y := by
        rw [d4, if_neg ne, hy]
        split <;> rfl
      have e5 : insAK K x p a u 5 (axK (insAK K x p a u) q) = K 5 y := by
        rw [d5, if_neg ne, hy]
        split <;> rfl
      unfold acK
      rw [if_neg (show ¬ axK (insAK K x p a u) q = -1 by omega), e4, e5, e6, ey, if_neg (show ¬ y = -1 by omega)]
  · have at1 := axK_at hK' (x := x) nb.1 (by omega)
    have e3 : insAK K x p a u 3 x = p := by rw [d3, if_neg (by omega), if_pos rfl]
    have e4 : insAK K x p a u 4 x = a := by rw [d4, if_neg (by omega), if_pos rfl]
    have e5 : insAK K x p a u 5 x = u := by rw [d5, if_neg (by omega), if_pos rfl]
    rw [e3] at at1
    unfold acK
    rw [at1, if_neg (by omega), e4, e5, e6]
theorem CS_ins {K : KV} (hK : WFK K) {p a u : Int} (hn : K 7 1 < 6) (hp : 1 ≤ p ∧ p ≤ K 7 0) (ha : 0 ≤ a ∧ a ≤ 500) (hu : 0 ≤ u ∧ u ≤ 9) (hx : axK K p = -1) (c : Int) : CS (insAK K (nxK K p) p a u) c ↔ CSp K p a u c := by
  obtain ⟨i1, i2⟩ := ac_ins hK hn hp ha hu hx
  have e : acK (insAK K (nxK K p) p a u) = acG K (-1) p a u 0 := by
    funext q b
    unfold acG
    rw [← acK_0]
    by_cases z : q = p
    · subst z
      have e0 : acK K q b = some 0 := by
        unfold acK
        rw [if_pos hx]
      rw [i2 b, if_pos rfl, e0]
      unfold acP1
      dsimp only
      rw [Int.add_zero, Int.zero_add]
    · rw [i1 q b z, if_neg z]
  unfold CS CSp
  rw [e]
  exact cont_same (K := K) (K' := insAK K (nxK K p) p a u) rfl rfl rfl _ 0 0 c
/-- an ash that says what the best count says costs nothing more -/
theorem yes_ins {K : KV} (hK : WFK K) {c0 : Int} {A O G : Int → Int} (h : Yes K c0 A O G) {p : Int} (hn : K 7 1 < 6) (hp : 1 ≤ p ∧ p ≤ K 7 0) (ha : A p ≤ 500) (hx : axK K p = -1) : isL (CS (insAK K (nxK K p) p (A p) 0)) c0 := by
  have n := hK.1
  have a0 := ((Bst_b hK h.2 (p := p) (by omega)).1 (by omega)).1
  obtain ⟨i1, i2⟩ := ac_ins hK (p := p) (a := A p) (u := 0) hn hp ⟨a0, ha⟩ (by decide) hx
  have hK' := WFK_insA hK (p := p) (a := A p) (u := 0) hn hp ⟨a0, ha⟩ (by decide) hx
  have P := Bst_P h.2
  have z : acK K p (A p) = some 0 := by
    unfold acK
    rw [if_pos hx]
  have z2 : ∀ b, acK K p b = some 0 := fun b => by
    unfold acK
    rw [if_pos hx]
  have d0 : dif (A p) (A p) = 0 := by
    unfold dif
    omega
  refine ⟨?_, fun c hc => ?_⟩
  · have P' : Pth (insAK K (nxK K p) p (A p) 0) (acK (insAK K (nxK K p) p (A p) 0)) (wvF (acK K) A) A O G := by
      refine ⟨P.1, fun q q0 q1 => ?_⟩
      obtain ⟨b1, b2, b3, b4, b5⟩ := P.2 q q0 q1
      refine ⟨b1, b2, b3, b4, ?_⟩
      by_cases e : q + 1 = p
      · rw [e] at b5 ⊢
        rw [i2, d0, if_neg (by omega), Int.zero_mul, ← b5]
        exact z.symm
      · rw [i1 _ _ e]
        exact b5
    have r := pth_c P' (K 7 0).toNat 0 (by omega) (by show (0 : Int) + ((K 7 0).toNat : Int) = K 7 0; omega)
    rw [P.1] at r
    have e : sumF (stF (insAK K (nxK K p) p (A p) 0) (wvF (acK K) A) O G) (K 7 0).toNat 0 = c0 := yes_sum hK h
    rw [e] at r
    exact r
  · obtain ⟨c', h1, h2⟩ := cont_mono (K := insAK K (nxK K p) p (A p) 0) (K' := K) (ac' := acK K) rfl rfl (fun p => Int.le_refl _) _ 0 0 c (fun q x w _ _ hw => by
      have b := acK_b hK' q x w hw
      by_cases e : q = p
      · rw [e]
        exact ⟨0, z2 x, b.1⟩
      · rw [i1 q x e] at hw
        exact ⟨w, hw, Int.le_refl _⟩) hc
    have := h.1.2 c' h1
    omega
/-- more missing years allowed -/
theorem CS_more {K : KV} (hK : WFK K) {i : Int} (hi : 0 ≤ i ∧ i < K 7 0) {c : Int} (h : CS K c) : ∃ c', CS (setLK K i 2 20) c' ∧ c' ≤ c := by
  have e : ∀ q : Nat, q ≠ 2 → setLK K i 2 20 q = K q := fun q hq => if_neg (by omega)
  have e2 : setLK K i 2 20 2 = setM (K 2) i 20 := if_pos rfl
  have ea : acK (setLK K i 2 20) = acK K := by
    funext q b
    unfold acK axK
    rw [e 3 (by decide), e 4 (by decide), e 5 (by decide), e 6 (by decide), e 7 (by decide)]
  have mb := (hK.2.2.1 i hi.1 hi.2).2.2
  unfold CS
  rw [ea, e 7 (by decide)]
  refine cont_mono (K := K) (K' := setLK K i 2 20) (e 1 (by decide)) (e 6 (by decide)) (fun p => ?_) _ 0 0 c (fun q x w _ _ hw => ⟨w, hw, Int.le_refl _⟩) h
  rw [e2]
  unfold setM
  split
  · rename_i z
    rw [z]
    exact mb.2
  · exact Int.le_refl _
/-- the thickness, when the last layer goes -/
theorem rem_sum {K : KV} (hK : WFK K) {n : Int} (hn : n = K 7 0) (h1 : 1 ≤ n) : remK K (n - 1) 7 0 = n - 1 ∧ sumF (remK K (n - 1) 0) (remK K (n - 1) 7 0).toNat 0 = sumF (K 0) (K 7 0).toNat 0 - K 0 (n - 1) := by
  have e0 : remK K (n - 1) 0 = delM (K 0) (n - 1) := by
    unfold remK
    split <;> rfl
  have e7 : remK K (n - 1) 7 0 = K 7 0 - 1 := by
    unfold remK
    split <;> rfl
  refine ⟨by omega, ?_⟩
  rw [e0, e7, show (K 7 0).toNat = (K 7 0 - 1).toNat + 1 by omega, sumF_sn, show (0 : Int) + ((K 7 0 - 1).toNat : Int) = n - 1 by omega, sumF_cg (g := K 0) _ _ (fun j j0 j1 => ?_)]
  · omega
  · unfold delM
    rw [if_pos (by omega)]
theorem pushH_top {h : Int} (h0 : 0 ≤ h ∧ h ≤ 6) (HK : Int → KV) (K : KV) : pushH h HK K (min 6 (h + 1) - 1) = K := by
  unfold pushH
  by_cases c : h = 6
  · rw [if_pos c, if_neg (by omega)]
  · rw [if_neg c, if_neg (by omega)]
/-- the ages of the best count lie within the bounds -/
theorem pth_pre {K : KV} {ac : acT} {w A O G : Int → Int} (h : Pth K ac w A O G) (h0 : ac 0 (A 0) = some (w 0)) : ∀ (p : Nat), (p : Int) ≤ K 7 0 → pre K ac 600 p (A p) (sumF (fun q => w q + (oK K q (O q) + G q * K 6 2)) p 0)
  | 0, _ => ⟨h.1, rfl⟩
  | p + 1, hp => by
    have ih := pth_pre h h0 p (by omega)
    obtain ⟨ho, hg, e, hb, hw⟩ := h.2 p (by omega) (by omega)
    have hw0 : ac (p : Int) (A p) = some (w p) := by
      cases p with
      | zero => exact h0
      | succ p => exact (h.2 p (by omega) (by omega)).2.2.2.2
    have ep : ((p + 1 : Nat) : Int) = (p : Int) + 1 := by omega
    rw [ep]
    refine ⟨O p, G p, w p, _, A p, ho, hg, e, hb, hw0, ih, ?_⟩
    rw [sumF_sn, show (0 : Int) + (p : Int) = p by omega]
    omega
theorem pth_tel {K : KV} {w O G : Int → Int} : ∀ (p m : Nat), sumF (fun q => w q + (oK K q (O q) + G q * K 6 2)) p 0 + w p + sumF (stF K w O G) m p = w 0 + sumF (stF K w O G) (p + m) 0
  | 0, m => by
    have e : sumF (fun q => w q + (oK K q (O q) + G q * K 6 2)) 0 0 = 0 := rfl
    rw [e, Nat.zero_add, show ((0 : Nat) : Int) = 0 from rfl]
    omega
  | p + 1, m => by
    have ih := pth_tel (K := K) (w := w) (O := O) (G := G) p (m + 1)
    have ep : ((p + 1 : Nat) : Int) = (p : Int) + 1 := by omega
    have es : stF K w O G p = oK K p (O p) + G p * K 6 2 + w (p + 1) := rfl
    rw [sumF_s, es] at ih
    rw [show p + 1 + m = p + (m + 1) by omega, ← ih, sumF_sn, show (0 : Int) + (p : Int) = p by omega, ep]
    omega
theorem yes_BS {K : KV} (hK : WFK K) {c0 : Int} {A O G : Int → Int} (h : Yes K c0 A O G) {p : Int} (h0 : 0 ≤ p) (h1 : p ≤ K 7 0) {s : Int} (hs : 0 ≤ s) : BS K p.toNat (K 7 0 - p).toNat (c0 + s) (A p) := by
  have P := Bst_P h.2
  have z : acK K 0 (A 0) = some (wvF (acK K) A 0) := by
    unfold wvF
    rw [P.1, acK_z hK]
    rfl
  have a := pth_pre P z p.toNat (by omega)
  have b := pth_c P (K 7 0 - p).toNat p h0 (by omega)
  have c := pth_tel (K := K) (w := wvF (acK K) A) (O := O) (G := G) p.toNat (K 7 0 - p).toNat
  have d := yes_sum hK h
  rw [show p.toNat + (K 7 0 - p).toNat = (K 7 0).toNat by omega, d] at c
  have w0 : wvF (acK K) A 0 = 0 := by
    unfold wvF
    rw [P.1, acK_z hK]
    rfl
  rw [show (p.toNat : Int) = p by omega] at a c
  have hw : acK K p (A p) = some (wvF (acK K) A p) := by
    by_cases e : p = 0
    · rw [e]
      exact z
    · have := (P.2 (p - 1) (by omega) (by omega)).2.2.2.2
      rwa [show p - 1 + 1 = p by omega] at this
  unfold BS
  rw [show (p.toNat : Int) = p by omega]
  exact ⟨_, _, _, a, hw, b, by omega⟩
theorem BS_m {K : KV} {p m : Nat} {lim lim' a : Int} (hl : lim ≤ lim') (h : BS K p m lim a) : BS K p m lim' a := by
  obtain ⟨c1, w, c2, g1, g2, g3, e⟩ := h
  exact ⟨c1, w, c2, g1, g2, g3, by omega⟩
theorem BS_b {K : KV} (hK : WFK K) {p m : Nat} (hp : (p : Int) ≤ K 7 0) {lim a : Int} (h : BS K p m lim a) : 0 ≤ a ∧ a ≤ 600 := by
  obtain ⟨c1, w, c2, g1, g2, g3, e⟩ := h
  have a := (pre_old hK hp g1).1
  have b := old_b hK
  omega
theorem W_0 {K : KV} (c : Int) : WS K 0 c ↔ CS K c := by
  unfold WS CS
  rw [acK_0]
theorem isW_b {K : KV} (hK : WFK K) {v : Int} (h : isW K v) : (0 ≤ v ∧ v ≤ 500) ∧ ((∃ c, CS K c) → v = 0) ∧ ((∀ c, ¬ CS K c) → 0 < v) := by
  have n := hK.1
  obtain ⟨h0, ⟨c1, h1⟩, h2⟩ := h
  refine ⟨⟨h0, ?_⟩, fun ⟨c, hc⟩ => ?_, fun hn => ?_⟩
  · by_cases q : 500 < v
    · obtain ⟨c, hc⟩ := WS_top hK (e := 500) (by decide) (K 7 0).toNat 0 0 (by omega) (by omega) (by omega) (by omega)
      exact absurd hc (h2 500 (by decide) q c)
    · omega
  · by_cases q : 0 < v
    · exact absurd ((W_0 c).2 hc) (h2 0 (by decide) q c)
    · omega
  · by_cases q : v = 0
    · rw [q] at h1
      exact absurd ((W_0 c1).1 h1) (hn c1)
    · omega
