/-! THE PROPERTY: what the best count is; its cost as a sum -/
theorem sumF_s (f : Int → Int) (n : Nat) (i : Int) : sumF f (n + 1) i = f i + sumF f n (i + 1) := rfl
theorem sumF_sn (f : Int → Int) : ∀ (n : Nat) (i : Int), sumF f (n + 1) i = sumF f n i + f (i + n)
  | 0, i => by
    have e : sumF f (0 + 1) i = f i + 0 := rfl
    have e2 : sumF f 0 i = 0 := rfl
    rw [e, e2, show i + ((0 : Nat) : Int) = i by omega]
    omega
  | n + 1, i => by
    rw [sumF_s, sumF_sn f n (i + 1), sumF_s f n i, show i + 1 + (n : Int) = i + ((n + 1 : Nat) : Int) by omega]
    omega
theorem sumF_add (f g : Int → Int) : ∀ (n : Nat) (i : Int), sumF (fun q => f q + g q) n i = sumF f n i + sumF g n i
  | 0, _ => rfl
  | n + 1, i => by
    rw [sumF_s, sumF_s, sumF_s, sumF_add f g n (i + 1)]
    omega
theorem sumF_mul (f : Int → Int) (k : Int) : ∀ (n : Nat) (i : Int), sumF (fun q => f q * k) n i = sumF f n i * k
  | 0, _ => (Int.zero_mul k).symm
  | n + 1, i => by
    rw [sumF_s, sumF_s, sumF_mul f k n (i + 1), Int.add_mul]
theorem sumF_z : ∀ (n : Nat) (i : Int), sumF (fun _ => 0) n i = 0
  | 0, _ => rfl
  | n + 1, i => by
    rw [sumF_s, sumF_z n (i + 1)]
    rfl
theorem sumF_at (x t : Int) : ∀ (n : Nat) (i : Int), sumF (fun q => if q = x then t else 0) n i = if i ≤ x ∧ x < i + n then t else 0
  | 0, i => by
    rw [if_neg (by omega)]
    rfl
  | n + 1, i => by
    rw [sumF_s, sumF_at x t n (i + 1)]
    by_cases c : i = x
    · rw [if_pos c, if_neg (by omega), if_pos (by omega)]
      omega
    · rw [if_neg c]
      by_cases c2 : i + 1 ≤ x ∧ x < i + 1 + n
      · rw [if_pos c2, if_pos (by omega)]
        omega
      · rw [if_neg c2, if_neg (by omega)]
        omega
theorem oK_e {K : KV} {p o : Int} (h1 : lo (K 1 p) ≤ o) (h2 : o ≤ hi (K 1 p)) : oK K p o = (if o = 0 then 1 else 0) * K 6 0 + (if o = 2 then 1 else 0) * K 6 1 := by
  show oCst (K 1 p) o (K 6 0) (K 6 1) = _
  unfold oCst
  unfold lo at h1
  unfold hi at h2
  by_cases c0 : o = 0
  · have k1 : K 1 p = 1 := by
      split at h1
      · assumption
      · omega
    rw [if_pos ⟨k1, c0⟩, if_pos c0, if_neg (by omega), Int.one_mul, Int.zero_mul, Int.add_zero]
  · rw [if_neg (fun e => c0 e.2), if_neg c0]
    by_cases c2 : o = 2
    · have k2 : K 1 p = 2 := by
        split at h2
        · assumption
        · omega
      rw [if_pos ⟨k2, c2⟩, if_pos c2, Int.one_mul, Int.zero_mul, Int.zero_add]
    · rw [if_neg (fun e => c2 e.2), if_neg c2, Int.zero_mul, Int.zero_mul, Int.zero_add]
theorem own_sum {K : KV} {O : Int → Int} : ∀ (m : Nat) (p : Int), (∀ q, p ≤ q → q < p + m → lo (K 1 q) ≤ O q ∧ O q ≤ hi (K 1 q)) → sumF (fun q => oK K q (O q)) m p = cntF O 0 m p * K 6 0 + cntF O 2 m p * K 6 1
  | 0, _, _ => by
    show (0 : Int) = 0 * K 6 0 + 0 * K 6 1
    rw [Int.zero_mul, Int.zero_mul, Int.zero_add]
  | m + 1, p, h => by
    have r := h p (by omega) (by omega)
    have e := oK_e r.1 r.2
    have ih := own_sum m (p + 1) (fun q h1 h2 => h q (by omega) (by omega))
    have c0 : cntF O 0 (m + 1) p = (if O p = 0 then 1 else 0) + cntF O 0 m (p + 1) := rfl
    have c2 : cntF O 2 (m + 1) p = (if O p = 2 then 1 else 0) + cntF O 2 m (p + 1) := rfl
    rw [sumF_s, ih, e, c0, c2, Int.add_mul, Int.add_mul]
    omega
theorem ash_sum {K : KV} (hK : WFK K) (t : Int → Int) : ∀ (j : Nat) (i : Int), 0 ≤ i → i + j ≤ K 7 1 → sumF (fun q => sumF (fun x => if K 3 x = q + 1 then t x else 0) j i) (K 7 0).toNat 0 = sumF t j i
  | 0, i, _, _ => sumF_z _ _
  | j + 1, i, h0, h1 => by
    have ih := ash_sum hK t j (i + 1) (by omega) (by omega)
    have r := (hK.2.2.2.1 i h0 (by omega)).1
    have e : (fun q => sumF (fun x => if K 3 x = q + 1 then t x else 0) (j + 1) i) = fun q => (if q = K 3 i - 1 then t i else 0) + sumF (fun x => if K 3 x = q + 1 then t x else 0) j (i + 1) := by
      funext q
      rw [sumF_s]
      congr 1
      by_cases c : K 3 i = q + 1
      · rw [if_pos c, if_pos (by omega)]
      · rw [if_neg c, if_neg (by omega)]
    rw [e, sumF_add, ih, sumF_at, if_pos (by omega)]
    rfl
theorem ash_pt {K : KV} (hK : WFK K) {A : Int → Int} {q w : Int} (h : acK K (q + 1) (A (q + 1)) = some w) : w = sumF (fun x => if K 3 x = q + 1 then dif (A (K 3 x)) (K 4 x) * K 6 3 else 0) (K 7 1).toNat 0 := by
  unfold acK at h
  rcases axK_of K (q + 1) hK.2.1.1 with ⟨a, b⟩ | ⟨a, b, c⟩
  · rw [if_pos a] at h
    cases h
    rw [sumF_cg (g := fun _ => 0) _ _ (fun j j0 j1 => if_neg (b j j0 (by omega))), sumF_z]
  · rw [if_neg (by omega)] at h
    split at h
    · cases h
    · cases h
      rw [sumF_cg (g := fun x => if x = axK K (q + 1) then dif (A (q + 1)) (K 4 (axK K (q + 1))) * K 6 3 else 0) _ _ (fun j j0 j1 => ?_), sumF_at, if_pos (by omega)]
      by_cases z : K 3 j = q + 1
      · have e := axK_at hK (x := j) j0 (by omega)
        rw [z] at e
        rw [if_pos z, if_pos e.symm, z, e]
      · rw [if_neg z, if_neg (fun e => z (by rw [e]; exact c))]
def stF (K : KV) (w O G : Int → Int) (q : Int) : Int := oK K q (O q) + G q * K 6 2 + w (q + 1)
/-- years that keep the rules, with what the ashes cost -/
def Pth (K : KV) (ac : acT) (w A O G : Int → Int) : Prop := A 0 = 0 ∧ ∀ p, 0 ≤ p → p < K 7 0 → (lo (K 1 p) ≤ O p ∧ O p ≤ hi (K 1 p)) ∧ (0 ≤ G p ∧ G p ≤ K 2 p) ∧ A (p + 1) = A p + O p + G p ∧ A (p + 1) ≤ 600 ∧ ac (p + 1) (A (p + 1)) = some (w (p + 1))
theorem pth_c {K : KV} {ac : acT} {w A O G : Int → Int} (h : Pth K ac w A O G) : ∀ (m : Nat) (p : Int), 0 ≤ p → p + m = K 7 0 → cont K ac 600 m p (A p) (sumF (stF K w O G) m p)
  | 0, _, _, _ => rfl
  | m + 1, p, h0, h1 => by
    obtain ⟨ho, hg, e, hb, hw⟩ := h.2 p h0 (by omega)
    have ih := pth_c h m (p + 1) (by omega) (by omega)
    refine ⟨O p, G p, w (p + 1), _, ho, hg, by omega, by rw [← e]; exact hw, by rw [← e]; exact ih, rfl⟩
def wvF (ac : acT) (A : Int → Int) (q : Int) : Int := (ac q (A q)).getD 0
theorem Bst_P {K : KV} {ac : acT} {A O G : Int → Int} (h : Bst K ac 600 A O G) : Pth K ac (wvF ac A) A O G := by
  refine ⟨h.1, fun p p0 p1 => ?_⟩
  obtain ⟨⟨⟨ho, hg, hb, w, c', hw, hc, hl⟩, -⟩, e⟩ := h.2 p p0 p1
  refine ⟨ho, hg, e, by omega, ?_⟩
  unfold wvF
  rw [e, hw]
  rfl
theorem Bst_L {K : KV} {ac : acT} {A O G : Int → Int} (h : Bst K ac 600 A O G) : ∀ (m : Nat) (p : Int), 0 ≤ p → p + m = K 7 0 → isL (cont K ac 600 m p (A p)) (sumF (stF K (wvF ac A) O G) m p)
  | 0, p, _, _ => ⟨rfl, fun c hc => by
    have hc : c = 0 := hc
    have e : sumF (stF K (wvF ac A) O G) 0 p = 0 := rfl
    omega⟩
  | m + 1, p, h0, h1 => by
    refine ⟨pth_c (Bst_P h) (m + 1) p h0 h1, fun c hc => ?_⟩
    have ih := Bst_L h m (p + 1) (by omega) (by omega)
    obtain ⟨⟨⟨ho, hg, hb, w, c', hw, hc', hl⟩, -⟩, e⟩ := h.2 p h0 (by omega)
    rw [show (K 7 0 - p - 1).toNat = m by omega] at hc' hl
    have l1 := hl c hc
    rw [← e] at hw hc'
    have l2 := ih.2 c' hc'
    have ew : wvF ac A (p + 1) = w := by
      unfold wvF
      rw [hw]
      rfl
    have es : stF K (wvF ac A) O G p = oK K p (O p) + G p * K 6 2 + wvF ac A (p + 1) := rfl
    rw [sumF_s, es, ew]
    omega
/-- the best count and its cost -/
def Yes (K : KV) (c0 : Int) (A O G : Int → Int) : Prop := isL (CS K) c0 ∧ Bst K (acK K) 600 A O G
theorem yes_sum {K : KV} (hK : WFK K) {c0 : Int} {A O G : Int → Int} (h : Yes K c0 A O G) : sumF (stF K (wvF (acK K) A) O G) (K 7 0).toNat 0 = c0 := by
  have n := hK.1
  have a := Bst_L h.2 (K 7 0).toNat 0 (by omega) (by omega)
  rw [h.2.1] at a
  exact isL_u a h.1
theorem yes_tot {K : KV} (hK : WFK K) {c0 : Int} {A O G : Int → Int} (h : Yes K c0 A O G) : cntF O 0 (K 7 0).toNat 0 * K 6 0 + cntF O 2 (K 7 0).toNat 0 * K 6 1 + sumF G (K 7 0).toNat 0 * K 6 2 + sumF (fun i => dif (A (K 3 i)) (K 4 i)) (K 7 1).toNat 0 * K 6 3 = c0 := by
  have n := hK.1
  have n2 := hK.2.1
  have P := Bst_P h.2
  rw [← yes_sum hK h]
  have e : sumF (stF K (wvF (acK K) A) O G) (K 7 0).toNat 0 = sumF (fun q => (oK K q (O q) + G q * K 6 2) + sumF (fun x => if K 3 x = q + 1 then dif (A (K 3 x)) (K 4 x) * K 6 3 else 0) (K 7 1).toNat 0) (K 7 0).toNat 0 := by
    refine sumF_cg _ _ (fun j j0 j1 => ?_)
    have r := (P.2 j j0 (by omega)).2.2.2.2
    rw [← ash_pt hK r]
    rfl
  rw [e, sumF_add, sumF_add, sumF_mul, own_sum _ _ (fun q h1 h2 => (P.2 q h1 (by omega)).1), ash_sum hK _ _ _ (by omega) (by omega), sumF_mul]
theorem yes_ash {K : KV} (hK : WFK K) {c0 : Int} {A O G : Int → Int} (h : Yes K c0 A O G) {x : Int} (h0 : 0 ≤ x) (h1 : x < K 7 1) : (0 ≤ A (K 3 x) ∧ A (K 3 x) ≤ 600) ∧ dif (A (K 3 x)) (K 4 x) ≤ K 5 x := by
  have r := (hK.2.2.2.1 x h0 h1).1
  refine ⟨(Bst_b hK h.2 (by omega)).1 (by omega), ?_⟩
  have P := (Bst_P h.2).2 (K 3 x - 1) (by omega) (by omega)
  have e := P.2.2.2.2
  rw [show K 3 x - 1 + 1 = K 3 x by omega] at e
  unfold acK at e
  rw [axK_at hK h0 h1, if_neg (by omega)] at e
  split at e
  · cases e
  · omega
theorem least_ex {S : Int → Prop} (h0 : ∀ c, S c → 0 ≤ c) : ∀ (n : Nat) (c : Int), c.toNat = n → S c → ∃ v, isL S v := by
  intro n
  induction n using Nat.strongRecOn with
  | _ n ih =>
    intro c hc hs
    by_cases q : ∃ c', S c' ∧ c' < c
    · obtain ⟨c', h1, h2⟩ := q
      have := h0 c' h1
      exact ih c'.toNat (by omega) c' rfl h1
    · refine ⟨c, hs, fun c' h' => ?_⟩
      by_cases z : c' < c
      · exact absurd ⟨c', h', z⟩ q
      · omega
theorem sumN_ge {f : Nat → Nat} {i : Nat} : ∀ (n : Nat), i < n → f i ≤ sumN f n
  | 0, h => absurd h (Nat.not_lt_zero _)
  | n + 1, h => by
    rw [sumN_s]
    by_cases c : i = n
    · rw [c]
      omega
    · have := sumN_ge (f := f) n (show i < n by omega)
      omega
theorem nW_1 {K : KV} (hK : WFK K) {ac : acT} (hac : acB ac 60000) {B : Int} : ∀ (m : Nat) (p a c : Int), 0 ≤ p → p + m ≤ K 7 0 → cont K ac B m p a c → 1 ≤ nW K ac B m p a
  | 0, _, _, _, _, _, _ => Nat.le_refl 1
  | m + 1, p, a, c, h0, h1, h => by
    obtain ⟨v, hv⟩ := least_ex (fun c hc => (cont_lt hK hac ⟨h0, h1⟩ hc).1) _ c rfl h
    obtain ⟨o, g, w, c', ho, hg, hb, hw, hc, e⟩ := hv.1
    have T : thr K ac B m p a o g := ⟨ho, hg, hb, w, c', hw, hc, fun c hc' => by have := hv.2 c hc'; omega⟩
    have ih := nW_1 hK hac m (p + 1) (a + o + g) c' (by omega) (by omega) hc
    have bl := lo_b (K 1 p)
    have bh := hi_b (K 1 p)
    have mb := (hK.2.2.1 p h0 (by omega)).2.2
    obtain ⟨o', rfl⟩ := Int.eq_ofNat_of_zero_le (show 0 ≤ o by omega)
    obtain ⟨g', rfl⟩ := Int.eq_ofNat_of_zero_le hg.1
    rw [nW_s]
    have s1 := sumN_ge (f := ttF (thr K ac B m p a) (fun x => nW K ac B m (p + 1) x) a o') (i := g') 21 (by omega)
    have s2 := sumN_ge (f := fun o => sumN (ttF (thr K ac B m p a) (fun x => nW K ac B m (p + 1) x) a o) 21) (i := o') 3 (by omega)
    rw [ttF_t T] at s1
    (try dsimp only at s1)
    (try dsimp only at s2)
    omega
theorem CS_b {K : KV} (hK : WFK K) {c : Int} (h : CS K c) : 0 ≤ c ∧ c < 4000000 := cont_lt hK (acK_g hK) (by have := hK.1; omega) h
theorem yes_nW {K : KV} (hK : WFK K) (h : ∃ c, CS K c) : 1 ≤ nW K (acK K) 600 (K 7 0).toNat 0 0 := by
  obtain ⟨c, hc⟩ := h
  exact nW_1 hK (acK_g hK) _ 0 0 c (by omega) (by have := hK.1; omega) hc
