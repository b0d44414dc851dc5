/-! WHAT IS ASKED, with the ages up to 600; the tables' own bound gives the same -/
def CS (K : KV) (c : Int) : Prop := cont K (acK K) 600 (K 7 0).toNat 0 0 c
def isL (S : Int → Prop) (v : Int) : Prop := S v ∧ ∀ c, S c → v ≤ c
theorem isL_u {S : Int → Prop} {v w : Int} (h : isL S v) (h' : isL S w) : v = w := by
  have a := h.2 _ h'.1
  have b := h'.2 _ h.1
  omega
theorem Mn_L {S : Int → Prop} {N v : Int} (h : Mn S N v) (hv : v < N) : isL S v := by
  rcases h.2 with q | q
  · omega
  · exact ⟨q.2, h.1⟩
theorem Mn_no {S : Int → Prop} {N v : Int} (h : Mn S N v) (hv : ¬ v < N) : ∀ c, ¬ S c := by
  rcases h.2 with q | q
  · exact q.2
  · exact absurd q.1 hv
theorem cont_B {K : KV} (hK : WFK K) {ac : acT} {B : Int} (hB : B ≤ 600) : ∀ (m : Nat) (p a c : Int), 0 ≤ p → p + m ≤ K 7 0 → (B = 600 ∨ a + mxK K m p ≤ B) → (cont K ac B m p a c ↔ cont K ac 600 m p a c)
  | 0, p, a, c, _, _, _ => Iff.rfl
  | m + 1, p, a, c, h0, h1, h => by
    by_cases q : B = 600
    · rw [q]
    · have h : a + mxK K (m + 1) p ≤ B := by
        rcases h with z | z
        · exact absurd z q
        · exact z
      rw [mxK_s] at h
      have mb := mxK_b hK m (p + 1) (by omega) (by omega)
      constructor
      · rintro ⟨o, g, w, c', ho, hg, hb, hw, hc, e⟩
        exact ⟨o, g, w, c', ho, hg, by omega, hw, (cont_B hK hB m (p + 1) _ c' (by omega) (by omega) (Or.inr (by omega))).1 hc, e⟩
      · rintro ⟨o, g, w, c', ho, hg, hb, hw, hc, e⟩
        exact ⟨o, g, w, c', ho, hg, by omega, hw, (cont_B hK hB m (p + 1) _ c' (by omega) (by omega) (Or.inr (by omega))).2 hc, e⟩
def rch (K : KV) (p a : Int) : Prop := a + mxK K (K 7 0 - p).toNat p ≤ mxK K (K 7 0).toNat 0
theorem rch_s {K : KV} (hK : WFK K) {p a o g : Int} (h0 : 0 ≤ p) (h1 : p < K 7 0) (hr : rch K p a) (hx : rngK K p (o, g)) : rch K (p + 1) (a + o + g) := by
  unfold rch at hr ⊢
  have hi2 : (lo (K 1 p) ≤ o ∧ o ≤ hi (K 1 p)) ∧ (0 ≤ g ∧ g ≤ K 2 p) := hx
  rw [show (K 7 0 - p).toNat = (K 7 0 - (p + 1)).toNat + 1 by omega, mxK_s] at hr
  omega
theorem rch_o {K : KV} (hK : WFK K) {p a : Int} (h0 : 0 ≤ p) (h1 : p ≤ K 7 0) (hr : rch K p a) : old K = 600 ∨ a + mxK K (K 7 0 - p).toNat p ≤ old K := by
  unfold rch at hr
  rw [old_e]
  omega
theorem cont_o {K : KV} (hK : WFK K) {ac : acT} {m : Nat} {p a c : Int} (h0 : 0 ≤ p) (h1 : p + m = K 7 0) (hr : rch K p a) : cont K ac (old K) m p a c ↔ cont K ac 600 m p a c := by
  have o := rch_o hK h0 (by omega) hr
  rw [show (K 7 0 - p).toNat = m by omega] at o
  exact cont_B hK (old_b hK).2 m p a c h0 (by omega) o
theorem thr_o {K : KV} (hK : WFK K) {ac : acT} {m : Nat} {p a o g : Int} (h0 : 0 ≤ p) (h1 : p + (m + 1) = K 7 0) (hr : rch K p a) : thr K ac (old K) m p a o g ↔ thr K ac 600 m p a o g := by
  have mb := mxK_b hK m (p + 1) (by omega) (by omega)
  have ob := old_b hK
  have q := rch_o hK h0 (by omega) hr
  rw [show (K 7 0 - p).toNat = m + 1 by omega, mxK_s] at q
  constructor
  · rintro ⟨r1, r2, r3, w, c', e1, e2, e3⟩
    have rs := rch_s hK h0 (by omega) hr (show rngK K p (o, g) from ⟨r1, r2⟩)
    exact ⟨r1, r2, by omega, w, c', e1, (cont_o hK (by omega) (by omega) rs).1 e2, fun c hc => e3 c ((cont_o hK h0 (by omega) hr).2 hc)⟩
  · rintro ⟨r1, r2, r3, w, c', e1, e2, e3⟩
    have rs := rch_s hK h0 (by omega) hr (show rngK K p (o, g) from ⟨r1, r2⟩)
    exact ⟨r1, r2, by omega, w, c', e1, (cont_o hK (by omega) (by omega) rs).2 e2, fun c hc => e3 c ((cont_o hK h0 (by omega) hr).1 hc)⟩
theorem rch_0 (K : KV) : rch K 0 0 := by
  unfold rch
  rw [Int.sub_zero]
  omega
theorem Bst_r {K : KV} (hK : WFK K) {ac : acT} {B : Int} {A O G : Int → Int} (h : Bst K ac B A O G) : ∀ (m : Nat), (m : Int) ≤ K 7 0 → 0 ≤ A m ∧ rch K m (A m)
  | 0, _ => by
    rw [show ((0 : Nat) : Int) = 0 from rfl, h.1]
    exact ⟨by omega, rch_0 K⟩
  | m + 1, hm => by
    have ih := Bst_r hK h m (by omega)
    have s := h.2 m (by omega) (by omega)
    have r := s.1.1
    have bl := lo_b (K 1 m)
    have r1 := r.1
    have r2 := r.2.1
    rw [show ((m + 1 : Nat) : Int) = (m : Int) + 1 by omega, s.2]
    exact ⟨by omega, rch_s hK (by omega) (by omega) ih.2 (show rngK K m (O m, G m) from ⟨r1, r2⟩)⟩
theorem Bst_o {K : KV} (hK : WFK K) {ac : acT} {A O G : Int → Int} (h : Bst K ac (old K) A O G) : Bst K ac 600 A O G := by
  refine ⟨h.1, fun p p0 p1 => ?_⟩
  obtain ⟨⟨s1, s2⟩, s3⟩ := h.2 p p0 p1
  have r := (Bst_r hK h p.toNat (by omega)).2
  rw [show (p.toNat : Int) = p by omega] at r
  refine ⟨⟨(thr_o hK p0 (by omega) r).1 s1, fun o' g' t => s2 o' g' ((thr_o hK p0 (by omega) r).2 t)⟩, s3⟩
theorem Bst_u {K : KV} {ac : acT} {B : Int} {A O G A' O' G' : Int → Int} (h : Bst K ac B A O G) (h' : Bst K ac B A' O' G') : ∀ (m : Nat), (m : Int) ≤ K 7 0 → A m = A' m ∧ ∀ q : Int, 0 ≤ q → q < m → O q = O' q ∧ G q = G' q
  | 0, _ => ⟨by rw [show ((0 : Nat) : Int) = 0 from rfl, h.1, h'.1], fun q q0 q1 => by omega⟩
  | m + 1, hm => by
    obtain ⟨i1, i2⟩ := Bst_u h h' m (by omega)
    have s := h.2 m (by omega) (by omega)
    have s' := h'.2 m (by omega) (by omega)
    rw [← i1] at s'
    have e1 := s.1.2 _ _ s'.1.1
    have e2 := s'.1.2 _ _ s.1.1
    have eo : O m = O' m := by omega
    have eg : G m = G' m := by omega
    refine ⟨?_, fun q q0 q1 => ?_⟩
    · rw [show ((m + 1 : Nat) : Int) = (m : Int) + 1 by omega, s.2, s'.2, eo, eg]
    · by_cases c : q = m
      · rw [c]
        exact ⟨eo, eg⟩
      · exact i2 q q0 (by omega)
/-- the best count's numbers, each in its range -/
theorem Bst_b {K : KV} (hK : WFK K) {ac : acT} {A O G : Int → Int} (h : Bst K ac 600 A O G) {p : Int} (p0 : 0 ≤ p) : (p ≤ K 7 0 → 0 ≤ A p ∧ A p ≤ 600) ∧ (p < K 7 0 → (lo (K 1 p) ≤ O p ∧ O p ≤ hi (K 1 p)) ∧ (0 ≤ G p ∧ G p ≤ K 2 p) ∧ A (p + 1) = A p + O p + G p) := by
  refine ⟨fun h1 => ?_, fun h1 => ?_⟩
  · have a := (Bst_r hK h p.toNat (by omega)).1
    rw [show (p.toNat : Int) = p by omega] at a
    refine ⟨a, ?_⟩
    by_cases c : p = 0
    · rw [c, h.1]
      decide
    · have s := h.2 (p - 1) (by omega) (by omega)
      have b := s.1.1.2.2.1
      rw [show p - 1 + 1 = p by omega] at s
      omega
  · have s := h.2 p p0 h1
    exact ⟨s.1.1.1, s.1.1.2.1, s.2⟩
theorem bel_0 {σ : Sto} {K : KV} (hK : WFK K) (h : BelOk σ K) : Mn (CS K) 268435456 (σ 25 0 0) := by
  have n := hK.1
  have b := h.2.1 0 0 (by omega) (by omega) (by omega) (old_b hK).1
  rw [Int.sub_zero] at b
  exact Mn_iff b (fun c => cont_o hK (by omega) (by omega) (rch_0 K))
