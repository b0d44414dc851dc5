/-! LEAST COSTS: the step of a place, downward and upward -/
abbrev acT : Type := Int → Int → Option Int
def cAt (K : KV) (ac : acT) (B : Int) (m : Nat) (p a c : Int) : Prop := ∃ w c', ac p a = some w ∧ cont K ac B m p a c' ∧ c = c' + w
def pAt (K : KV) (ac : acT) (B : Int) (p : Nat) (a c : Int) : Prop := ∃ w c', ac (p : Int) a = some w ∧ pre K ac B p a c' ∧ c = c' + w
abbrev rngK (K : KV) (p : Int) (i : Int × Int) : Prop := (lo (K 1 p) ≤ i.1 ∧ i.1 ≤ hi (K 1 p)) ∧ (0 ≤ i.2 ∧ i.2 ≤ K 2 p)
abbrev stK (K : KV) (p : Int) (i : Int × Int) : Int := oK K p i.1 + i.2 * K 6 2
theorem cont_S {K : KV} {ac : acT} {B : Int} {m : Nat} {p a c : Int} : cont K ac B (m + 1) p a c ↔ ∃ i : Int × Int, (rngK K p i ∧ a + i.1 + i.2 ≤ B) ∧ ∃ c', cAt K ac B m (p + 1) (a + i.1 + i.2) c' ∧ c = c' + stK K p i := by
  constructor
  · rintro ⟨o, g, w, c', ho, hg, hb, hw, hc, e⟩
    refine ⟨(o, g), ⟨⟨ho, hg⟩, hb⟩, c' + w, ⟨w, c', hw, hc, rfl⟩, ?_⟩
    dsimp only [stK]
    omega
  · rintro ⟨⟨o, g⟩, ⟨⟨ho, hg⟩, hb⟩, c1, ⟨w, c', hw, hc, e1⟩, e⟩
    refine ⟨o, g, w, c', ho, hg, hb, hw, hc, ?_⟩
    dsimp only [stK] at e
    omega
theorem st_b {K : KV} (hK : WFK K) {p : Int} {i : Int × Int} (hp : 0 ≤ p ∧ p < K 7 0) (hi : rngK K p i) : 0 ≤ stK K p i ∧ stK K p i ≤ 1050 := by
  have a := oK_b hK p i.1
  have b := gap_b hK hp hi.2
  dsimp only [stK]
  omega
theorem pre_b {K : KV} (hK : WFK K) {ac : acT} {B W : Int} (hac : acB ac W) : ∀ (p : Nat) (a c : Int), p ≤ K 7 0 → pre K ac B p a c → 0 ≤ a ∧ 0 ≤ c ∧ c ≤ p * (1050 + W)
  | 0, a, c, _, h => by
    obtain ⟨h1, h2⟩ : a = 0 ∧ c = 0 := h
    omega
  | p + 1, a, c, h0, h => by
    obtain ⟨o, g, w, c', a', ho, hg, ea, hb, hw, hc, rfl⟩ := h
    have ih := pre_b hK hac p _ c' (by omega) hc
    have e1 := oK_b hK p o
    have e2 := gap_b hK (p := p) (g := g) (by omega) hg
    have e3 := hac _ _ _ hw
    have e4 := lo_b (K 1 p)
    rw [show ((p + 1 : Nat) : Int) * (1050 + W) = (p : Int) * (1050 + W) + (1050 + W) by rw [show ((p + 1 : Nat) : Int) = (p : Int) + 1 by omega, Int.add_mul, Int.one_mul]]
    omega
theorem pre_S {K : KV} (hK : WFK K) {ac : acT} {B W : Int} (hac : acB ac W) {p : Nat} (hp : p < K 7 0) {a c : Int} : pre K ac B (p + 1) a c ↔ ∃ i : Int × Int, (rngK K p i ∧ 0 ≤ a - i.1 - i.2 ∧ a ≤ B) ∧ ∃ c', pAt K ac B p (a - i.1 - i.2) c' ∧ c = c' + stK K p i := by
  constructor
  · rintro ⟨o, g, w, c', a', ho, hg, ea, hb, hw, hc, e⟩
    have e' : a' = a - o - g := by omega
    subst e'
    have n := (pre_b hK hac p _ _ (by omega) hc).1
    refine ⟨(o, g), ⟨⟨ho, hg⟩, n, hb⟩, c' + w, ⟨w, c', hw, hc, rfl⟩, ?_⟩
    dsimp only [stK]
    omega
  · rintro ⟨⟨o, g⟩, ⟨⟨ho, hg⟩, hn, hb⟩, c1, ⟨w, c', hw, hc, e1⟩, e⟩
    refine ⟨o, g, w, c', a - o - g, ho, hg, by omega, hb, hw, hc, ?_⟩
    dsimp only [stK] at e
    omega
theorem Mn_at {S : Int → Prop} {N v av p a : Int} {ac : acT} (h : Mn S N v) (h0 : 0 ≤ v) (hav : (ac p a = none ∧ N ≤ av) ∨ (ac p a = some av ∧ 0 ≤ av)) (hb : ∀ c w, S c → ac p a = some w → c + w < N) : Mn (fun c => ∃ w c', ac p a = some w ∧ S c' ∧ c = c' + w) N (min N (v + av)) := by
  rcases hav with ⟨e, h1⟩ | ⟨e, h1⟩
  · have no : ∀ c, ¬ ∃ w c', ac p a = some w ∧ S c' ∧ c = c' + w := by
      rintro c ⟨w, c', q, _⟩
      rw [e] at q
      cases q
    exact ⟨fun c hc => absurd hc (no c), Or.inl ⟨by omega, no⟩⟩
  · refine ⟨?_, ?_⟩
    · rintro c ⟨w, c', q, hs, rfl⟩
      rw [e] at q
      cases q
      have := h.1 c' hs
      omega
    · rcases h.2 with ⟨a1, b1⟩ | ⟨a1, b1⟩
      · refine Or.inl ⟨by omega, ?_⟩
        rintro c ⟨w, c', q, hs, _⟩
        exact b1 c' hs
      · have := hb v av b1 e
        rw [Int.min_eq_right (by omega)]
        exact Or.inr ⟨this, av, v, e, b1, rfl⟩
abbrev BIG : Int := 268435456
def WinU (V : Int → Int) (gap miss B r a : Int) : Prop := r ≤ 268435456 ∧ (∀ g, 0 ≤ g → g ≤ miss → a + g ≤ B → r ≤ V (a + g) + g * gap) ∧ (r = 268435456 ∨ ∃ g, (0 ≤ g ∧ g ≤ miss) ∧ a + g ≤ B ∧ r = V (a + g) + g * gap)
def WinD (V : Int → Int) (gap miss r a : Int) : Prop := r ≤ 268435456 ∧ (∀ g, 0 ≤ g → g ≤ miss → 0 ≤ a - g → r ≤ V (a - g) + g * gap) ∧ (r = 268435456 ∨ ∃ g, (0 ≤ g ∧ g ≤ miss) ∧ 0 ≤ a - g ∧ r = V (a - g) + g * gap)
theorem Mn_U {K : KV} (hK : WFK K) {ac : acT} (hac : acB ac 60000) {m : Nat} {p : Int} (hp : 0 ≤ p ∧ p + (m + 1) ≤ K 7 0) {W V r : Int → Int} {B : Int} (hW : ∀ a, 0 ≤ a → a ≤ B → Mn (cAt K ac B m (p + 1) a) 268435456 (W a)) (hE : OwnEU W (fun o => oK K p o) (lo (K 1 p)) (hi (K 1 p)) B (hi (K 1 p) + 1) 0 V) (hr : ∀ a, 0 ≤ a → a ≤ B → WinU V (K 6 2) (K 2 p) B (r a) a) {a : Int} (a0 : 0 ≤ a) (a1 : a ≤ B) : Mn (cont K ac B (m + 1) p a) 268435456 (r a) := by
  have hn := hK.1
  have bl := lo_b (K 1 p)
  obtain ⟨r1, r2, r3⟩ := hr a a0 a1
  refine Mn_un (I := fun i : Int × Int => rngK K p i ∧ a + i.1 + i.2 ≤ B) (x := fun i => W (a + i.1 + i.2)) (k := fun i => stK K p i) (Si := fun i => cAt K ac B m (p + 1) (a + i.1 + i.2)) ?_ (fun c => cont_S) ?_ r1 ?_ ?_
  · rintro ⟨o, g⟩ ⟨⟨ho, hg⟩, hb⟩
    dsimp only at ho hg hb ⊢
    exact ⟨hW _ (by omega) hb, (st_b hK (by omega) ⟨ho, hg⟩).1⟩
  · intro c hc
    have := cont_b hK hac (m + 1) p a c hp.1 (by omega) hc
    omega
  · rintro ⟨o, g⟩ ⟨⟨ho, hg⟩, hb⟩
    dsimp only [stK] at ho hg hb ⊢
    have e1 := r2 g hg.1 hg.2 (by omega)
    have e2 := (hE (a + g) (by omega) (by omega)).2.1 o ho.1 ho.2 (by omega) (by omega) (by unfold pr; omega)
    rw [show a + g + o = a + o + g by omega] at e2
    dsimp only at e2
    omega
  · rcases r3 with e | ⟨g, hg, hb, e⟩
    · exact Or.inl e
    · have gb := gap_b hK (p := p) (by omega) hg
      rcases (hE (a + g) (by omega) (by omega)).2.2 with q | ⟨o, ho, h2, q⟩
      · exact Or.inl (by omega)
      · refine Or.inr ⟨(o, g), ⟨⟨ho, hg⟩, ?_⟩, ?_⟩
        · dsimp only
          omega
        · dsimp only [stK]
          rw [show a + o + g = a + g + o by omega]
          dsimp only at q
          omega
theorem Mn_D {K : KV} (hK : WFK K) {ac : acT} (hac : acB ac 60000) {p : Nat} (hp : p < K 7 0) {W V r : Int → Int} {B : Int} (hW : ∀ a, 0 ≤ a → a ≤ B → Mn (pAt K ac B p a) 268435456 (W a)) (hE : OwnED W (fun o => oK K p o) (lo (K 1 p)) (hi (K 1 p)) B (hi (K 1 p) + 1) 0 V) (hr : ∀ a, 0 ≤ a → a ≤ B → WinD V (K 6 2) (K 2 p) (r a) a) {a : Int} (a0 : 0 ≤ a) (a1 : a ≤ B) : Mn (pre K ac B (p + 1) a) 268435456 (r a) := by
  have hn := hK.1
  have bl := lo_b (K 1 p)
  obtain ⟨r1, r2, r3⟩ := hr a a0 a1
  refine Mn_un (I := fun i : Int × Int => rngK K p i ∧ 0 ≤ a - i.1 - i.2 ∧ a ≤ B) (x := fun i => W (a - i.1 - i.2)) (k := fun i => stK K p i) (Si := fun i => pAt K ac B p (a - i.1 - i.2)) ?_ (fun c => pre_S hK hac hp) ?_ r1 ?_ ?_
  · rintro ⟨o, g⟩ ⟨⟨ho, hg⟩, hn, hb⟩
    dsimp only at ho hg hn ⊢
    exact ⟨hW _ (by omega) (by omega), (st_b hK (by omega) ⟨ho, hg⟩).1⟩
  · intro c hc
    have := pre_b hK hac (p + 1) a c (by omega) hc
    omega
  · rintro ⟨o, g⟩ ⟨⟨ho, hg⟩, hn, hb⟩
    dsimp only [stK] at ho hg hn ⊢
    have e1 := r2 g hg.1 hg.2 (by omega)
    have e2 := (hE (a - g) (by omega) (by omega)).2.1 o ho.1 ho.2 (by omega) (by omega) (by unfold pr; omega)
    rw [show a - g - o = a - o - g by omega] at e2
    dsimp only at e2
    omega
  · rcases r3 with e | ⟨g, hg, hb, e⟩
    · exact Or.inl e
    · have gb := gap_b hK (p := p) (by omega) hg
      rcases (hE (a - g) (by omega) (by omega)).2.2 with q | ⟨o, ho, h2, q⟩
      · exact Or.inl (by omega)
      · refine Or.inr ⟨(o, g), ⟨⟨ho, hg⟩, ?_⟩, ?_⟩
        · dsimp only
          omega
        · dsimp only [stK]
          rw [show a - o - g = a - g - o by omega]
          dsimp only at q
          omega
theorem cAt_b {K : KV} (hK : WFK K) {ac : acT} (hac : acB ac 60000) {B : Int} {m : Nat} {p a c : Int} (hp : 0 ≤ p ∧ p + m ≤ K 7 0) (h : cAt K ac B m p a c) : 0 ≤ c ∧ c < 90000000 := by
  obtain ⟨w, c', hw, hc, rfl⟩ := h
  have n := hK.1
  have a := cont_b hK hac m p a c' hp.1 hp.2 hc
  have b := hac _ _ _ hw
  omega
theorem pAt_b {K : KV} (hK : WFK K) {ac : acT} (hac : acB ac 60000) {B : Int} {p : Nat} {a c : Int} (hp : p ≤ K 7 0) (h : pAt K ac B p a c) : 0 ≤ c ∧ c < 90000000 := by
  obtain ⟨w, c', hw, hc, rfl⟩ := h
  have n := hK.1
  have a := pre_b hK hac p a c' hp hc
  have b := hac _ _ _ hw
  omega
theorem cont_lt {K : KV} (hK : WFK K) {ac : acT} (hac : acB ac 60000) {B : Int} {m : Nat} {p a c : Int} (hp : 0 ≤ p ∧ p + m ≤ K 7 0) (h : cont K ac B m p a c) : 0 ≤ c ∧ c < 4000000 := by
  have n := hK.1
  have a := cont_b hK hac m p a c hp.1 hp.2 h
  omega
theorem pre_lt {K : KV} (hK : WFK K) {ac : acT} (hac : acB ac 60000) {B : Int} {p : Nat} {a c : Int} (hp : p ≤ K 7 0) (h : pre K ac B p a c) : 0 ≤ c ∧ c < 4000000 := by
  have n := hK.1
  have a := pre_b hK hac p a c hp h
  omega
/-- through these years goes the least cost -/
theorem thr_iff {K : KV} (hK : WFK K) {ac : acT} (hac : acB ac 60000) {B N : Int} (hN : 90000000 ≤ N) {m : Nat} {p a o g v0 v1 : Int} (hp : 0 ≤ p ∧ p + (m + 1) ≤ K 7 0) (hi : rngK K p (o, g)) (hB : a + o + g ≤ B) (h1 : Mn (cAt K ac B m (p + 1) (a + o + g)) N v1) (h0 : Mn (cont K ac B (m + 1) p a) N v0) (hv : v0 < N) : thr K ac B m p a o g ↔ oK K p o + g * K 6 2 + v1 = v0 := by
  have hs := st_b hK (p := p) (i := (o, g)) (by omega) hi
  dsimp only [stK] at hs
  have m0 : cont K ac B (m + 1) p a v0 := by
    rcases h0.2 with q | q
    · omega
    · exact q.2
  have put : ∀ c', cAt K ac B m (p + 1) (a + o + g) c' → cont K ac B (m + 1) p a (c' + (oK K p o + g * K 6 2)) := fun c' hc => cont_S.2 ⟨(o, g), ⟨hi, hB⟩, c', hc, rfl⟩
  constructor
  · rintro ⟨-, -, -, w, c', hw, hc, hl⟩
    have ca : cAt K ac B m (p + 1) (a + o + g) (c' + w) := ⟨w, c', hw, hc, rfl⟩
    have e1 := h1.1 _ ca
    have e2 := cAt_b hK hac (by omega) ca
    have m1 : cAt K ac B m (p + 1) (a + o + g) v1 := by
      rcases h1.2 with q | q
      · omega
      · exact q.2
    have e3 := h0.1 _ (put _ m1)
    have e4 := hl _ m0
    omega
  · intro e
    have m1 : cAt K ac B m (p + 1) (a + o + g) v1 := by
      rcases h1.2 with q | q
      · omega
      · exact q.2
    obtain ⟨w, c', hw, hc, e5⟩ := m1
    refine ⟨hi.1, hi.2, hB, w, c', hw, hc, fun c hc' => ?_⟩
    have := h0.1 c hc'
    omega
theorem thr_ex {K : KV} (hK : WFK K) {ac : acT} (hac : acB ac 60000) {B N : Int} {m : Nat} {p a v0 : Int} (h0 : Mn (cont K ac B (m + 1) p a) N v0) (hv : v0 < N) : ∃ o g, thr K ac B m p a o g := by
  have m0 : cont K ac B (m + 1) p a v0 := by
    rcases h0.2 with q | q
    · omega
    · exact q.2
  obtain ⟨o, g, w, c', ho, hg, hb, hw, hc, e⟩ := m0
  exact ⟨o, g, ho, hg, hb, w, c', hw, hc, fun c hc' => by have := h0.1 c hc'; omega⟩
