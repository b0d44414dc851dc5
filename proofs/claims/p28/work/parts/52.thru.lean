/-! COSTS THROUGH A PLACE -/
theorem axK_z {K : KV} (hK : WFK K) : axK K 0 = -1 := by
  rcases axK_of K 0 hK.2.1.1 with a | a
  · exact a.1
  · have := (hK.2.2.2.1 (axK K 0) a.1 a.2.1).1
    omega
theorem axK_at {K : KV} (hK : WFK K) {x : Int} (h0 : 0 ≤ x) (h1 : x < K 7 1) : axK K (K 3 x) = x := by
  rcases axK_of K (K 3 x) hK.2.1.1 with a | a
  · exact absurd rfl (a.2 x h0 h1)
  · have m := hK.2.2.2.2.1
    by_cases c : axK K (K 3 x) < x
    · have := m _ _ a.1 c h1
      omega
    · by_cases c2 : x < axK K (K 3 x)
      · have := m _ _ h0 c2 a.2.1
        omega
      · omega
theorem pre_r {K : KV} (hK : WFK K) {ac : acT} {B : Int} : ∀ (p : Nat) (a c : Int), p ≤ K 7 0 → pre K ac B p a c → rch K p a ∧ 0 ≤ a
  | 0, a, c, _, h => by
    rw [(show a = 0 ∧ c = 0 from h).1]
    exact ⟨rch_0 K, by decide⟩
  | p + 1, a, c, hp, h => by
    obtain ⟨o, g, w, c', a', ho, hg, ea, hb, hw, hc, e⟩ := h
    have ih := pre_r hK p a' c' (by omega) hc
    have bl := lo_b (K 1 p)
    rw [ea]
    exact ⟨rch_s hK (by omega) (by omega) ih.1 (show rngK K p (o, g) from ⟨ho, hg⟩), by omega⟩
theorem rch_le {K : KV} (hK : WFK K) {p a : Int} (h0 : 0 ≤ p) (h1 : p ≤ K 7 0) (hr : rch K p a) : a ≤ mxK K (K 7 0).toNat 0 := by
  have b := mxK_b hK (K 7 0 - p).toNat p h0 (by omega)
  unfold rch at hr
  omega
theorem pre_o {K : KV} (hK : WFK K) {ac : acT} : ∀ (p : Nat) (a c : Int), p ≤ K 7 0 → (pre K ac (old K) p a c ↔ pre K ac 600 p a c)
  | 0, _, _, _ => Iff.rfl
  | p + 1, a, c, hp => by
    have ob := old_b hK
    constructor
    · rintro ⟨o, g, w, c', a', ho, hg, ea, hb, hw, hc, e⟩
      exact ⟨o, g, w, c', a', ho, hg, ea, by omega, hw, (pre_o hK p a' c' (by omega)).1 hc, e⟩
    · rintro ⟨o, g, w, c', a', ho, hg, ea, hb, hw, hc, e⟩
      have r := rch_s hK (by omega) (by omega) (pre_r hK p a' c' (by omega) hc).1 (show rngK K p (o, g) from ⟨ho, hg⟩)
      have l := rch_le hK (by omega) (by omega) r
      exact ⟨o, g, w, c', a', ho, hg, ea, by rw [old_e]; omega, hw, (pre_o hK p a' c' (by omega)).2 hc, e⟩
theorem pre_old {K : KV} (hK : WFK K) {ac : acT} {p : Nat} {a c : Int} (hp : p ≤ K 7 0) (h : pre K ac 600 p a c) : (0 ≤ a ∧ a ≤ old K) ∧ rch K p a := by
  obtain ⟨r, a0⟩ := pre_r hK p a c hp h
  have l := rch_le hK (by omega) hp r
  refine ⟨⟨a0, ?_⟩, r⟩
  rw [old_e]
  have : a ≤ 600 := by
    cases p with
    | zero =>
      have := (show a = 0 ∧ c = 0 from h).1
      omega
    | succ p =>
      obtain ⟨o, g, w, c', a', ho, hg, ea, hb, hw, hc, e⟩ := h
      exact hb
  omega
theorem dec_s {K : KV} {ac : acT} {B : Int} {p m : Nat} {c : Int} : (∃ a c1 w c2, pre K ac B p a c1 ∧ ac (p : Int) a = some w ∧ cont K ac B (m + 1) (p : Int) a c2 ∧ c = c1 + w + c2) ↔ (∃ a c1 w c2, pre K ac B (p + 1) a c1 ∧ ac ((p + 1 : Nat) : Int) a = some w ∧ cont K ac B m ((p + 1 : Nat) : Int) a c2 ∧ c = c1 + w + c2) := by
  have ep : ((p + 1 : Nat) : Int) = (p : Int) + 1 := rfl
  rw [ep]
  constructor
  · rintro ⟨a, c1, w, c2, h1, h2, ⟨o, g, w', c', ho, hg, hb, hw, hc, e⟩, e2⟩
    exact ⟨a + o + g, c1 + w + oK K p o + g * K 6 2, w', c', ⟨o, g, w, c1, a, ho, hg, rfl, hb, h2, h1, rfl⟩, hw, hc, by omega⟩
  · rintro ⟨a, c1, w, c2, ⟨o, g, w', c', a', ho, hg, ea, hb, hw, hc, e⟩, h2, h3, e2⟩
    subst ea
    exact ⟨a', c', w', oK K p o + g * K 6 2 + w + c2, hc, hw, ⟨o, g, w, c2, ho, hg, hb, h2, h3, rfl⟩, by omega⟩
theorem dec_a {K : KV} {ac : acT} {B : Int} (h0 : ac 0 0 = some 0) {c : Int} : ∀ (p m : Nat), (cont K ac B (p + m) 0 0 c ↔ ∃ a c1 w c2, pre K ac B p a c1 ∧ ac (p : Int) a = some w ∧ cont K ac B m (p : Int) a c2 ∧ c = c1 + w + c2)
  | 0, m => by
    rw [Nat.zero_add]
    constructor
    · intro h
      exact ⟨0, 0, 0, c, ⟨rfl, rfl⟩, h0, h, by omega⟩
    · rintro ⟨a, c1, w, c2, h1, h2, h3, e⟩
      obtain ⟨e1, e3⟩ : a = 0 ∧ c1 = 0 := h1
      subst e1
      have e4 : ((0 : Nat) : Int) = 0 := rfl
      rw [e4, h0] at h2
      cases h2
      rw [e, e3, Int.zero_add, Int.zero_add]
      exact h3
  | p + 1, m => by
    rw [show p + 1 + m = p + (m + 1) by omega]
    exact (dec_a h0 p (m + 1)).trans dec_s
theorem Mn_thru {K : KV} (hK : WFK K) {ac : acT} (hac : acB ac 60000) {p m : Nat} (hp : (p : Int) + m = K 7 0) (h0 : ac 0 0 = some 0) (hs : ∀ (q : Int) x, 0 ≤ q → q ≠ p → ac q x = acK K q x) {Ab Be : Int → Int} (hA : ∀ a, 0 ≤ a → a ≤ old K → Mn (pre K (acK K) (old K) p a) 268435456 (Ab a)) (hB : ∀ a, 0 ≤ a → a ≤ old K → Mn (cont K (acK K) (old K) m p a) 268435456 (Be a)) {v : Int} (v1 : v ≤ 268435456) (v2 : ∀ a w, 0 ≤ a → a ≤ old K → ac p a = some w → v ≤ Ab a + Be a + w) (v3 : v = 268435456 ∨ ∃ a w, (0 ≤ a ∧ a ≤ old K) ∧ ac p a = some w ∧ v = Ab a + Be a + w) : Mn (cont K ac 600 (p + m) 0 0) 268435456 v := by
  have low : ∀ c, cont K ac 600 (p + m) 0 0 c → v ≤ c := fun c hc => by
    obtain ⟨a, c1, w, c2, g1, g2, g3, e⟩ := (dec_a h0 p m).1 hc
    have k1 := pre_cg (ac' := acK K) p a c1 (fun q x w q0 q1 hw => by rw [← hs q x q0 (by omega)]; exact hw) g1
    have k3 := cont_cg (ac' := acK K) m p a c2 (fun q x w q0 q1 hw => by rw [← hs q x (by omega) (by omega)]; exact hw) g3
    obtain ⟨⟨a0, a1⟩, r⟩ := pre_old hK (by omega) k1
    have x1 := (hA a a0 a1).1 c1 ((pre_o hK p a c1 (by omega)).2 k1)
    have x2 := (hB a a0 a1).1 c2 ((cont_o hK (by omega) (by omega) r).2 k3)
    have x3 := v2 a w a0 a1 g2
    omega
  refine ⟨low, ?_⟩
  by_cases q : v = 268435456
  · refine Or.inl ⟨q, fun c hc => ?_⟩
    have a := low c hc
    have b := cont_lt hK hac (by omega) hc
    omega
  · rcases v3 with z | ⟨a, w, ⟨a0, a1⟩, hw, e⟩
    · exact absurd z q
    · have b1 := pre_v hK (by omega) (hA a a0 a1)
      have b2 := cont_v hK (by omega) (hB a a0 a1)
      have b3 := hac _ _ _ hw
      have m1 : pre K (acK K) (old K) p a (Ab a) := (Mn_L (hA a a0 a1) (by omega)).1
      have m2 : cont K (acK K) (old K) m p a (Be a) := (Mn_L (hB a a0 a1) (by omega)).1
      have m1 := (pre_o hK p a _ (by omega)).1 m1
      have r := (pre_old hK (by omega) m1).2
      have m2 := (cont_o hK (by omega) (by omega) r).1 m2
      refine Or.inr ⟨by omega, (dec_a h0 p m).2 ⟨a, Ab a, w, Be a, ?_, hw, ?_, by omega⟩⟩
      · exact pre_cg p a _ (fun q x w q0 q1 hw => by rw [hs q x q0 (by omega)]; exact hw) m1
      · exact cont_cg m p a _ (fun q x w q0 q1 hw => by rw [hs q x (by omega) (by omega)]; exact hw) m2
/-- ages of a place in counts of at most a cost -/
def BS (K : KV) (p m : Nat) (lim a : Int) : Prop := ∃ c1 w c2, pre K (acK K) 600 p a c1 ∧ acK K p a = some w ∧ cont K (acK K) 600 m p a c2 ∧ c1 + w + c2 ≤ lim
theorem acK_z {K : KV} (hK : WFK K) : acK K 0 0 = some 0 := by
  unfold acK
  rw [if_pos (axK_z hK)]
theorem BS_ex {K : KV} (hK : WFK K) {p m : Nat} (hp : (p : Int) + m = K 7 0) {c0 lim : Int} (hc : CS K c0) (hl : c0 ≤ lim) : ∃ a, BS K p m lim a := by
  unfold CS at hc
  rw [show (K 7 0).toNat = p + m by omega] at hc
  obtain ⟨a, c1, w, c2, g1, g2, g3, e⟩ := (dec_a (acK_z hK) p m).1 hc
  exact ⟨a, c1, w, c2, g1, g2, g3, by omega⟩
theorem BS_v {K : KV} (hK : WFK K) {p m : Nat} (hp : (p : Int) + m = K 7 0) {lim a Ab Be : Int} (hl : lim < 268435456) (a0 : 0 ≤ a) (a1 : a ≤ old K) (hA : Mn (pre K (acK K) (old K) p a) 268435456 Ab) (hB : Mn (cont K (acK K) (old K) m p a) 268435456 Be) : (Ab + Be + acV K p a ≤ lim ↔ BS K p m lim a) := by
  have b1 := pre_v hK (by omega) hA
  have b2 := cont_v hK (by omega) hB
  have b3 := acV_av hK p a
  constructor
  · intro h
    have av : acK K p a = some (acV K p a) ∧ 0 ≤ acV K p a := by
      rcases b3 with z | z
      · omega
      · exact z
    have m1 := (pre_o hK p a _ (by omega)).1 (Mn_L hA (by omega)).1
    have r := (pre_old hK (by omega) m1).2
    have m2 := (cont_o hK (by omega) (by omega) r).1 (Mn_L hB (by omega)).1
    exact ⟨Ab, _, Be, m1, av.1, m2, by omega⟩
  · rintro ⟨c1, w, c2, g1, g2, g3, e⟩
    have r := (pre_old hK (by omega) g1).2
    have x1 := hA.1 c1 ((pre_o hK p a c1 (by omega)).2 g1)
    have x2 := hB.1 c2 ((cont_o hK (by omega) (by omega) r).2 g3)
    have x3 : acV K p a = w := by
      rcases b3 with z | z
      · rw [z.1] at g2
        cases g2
      · rw [z.1] at g2
        injection g2
    omega
theorem t_X2_costThrough {d : Nat} (hd : 1 ≤ d) {σ : Sto} {Q : Post} {p a : Int} (hp : 0 ≤ p ∧ p ≤ 50) (ha : 0 ≤ a ∧ a ≤ 600) (h : Q (some (.inl (σ 24 p a + σ 25 p a))) σ) : WPd d m_X2_costThrough [.inr (3, 0), .inl p, .inl a] σ Q := by
  obtain ⟨d, rfl⟩ : ∃ k, d = k + 1 := ⟨d - 1, by omega⟩
  intro P hP
  (refine go (t := tb_X2_costThrough) (WPd_mono d) hP 60 [] ?_; (conv => whnf); (repeat' (first | (refine ⟨fun _ => ?_, fun _ => ?_⟩ <;> first | (exfalso; omega) | (conv => whnf)) | (refine ⟨by omega, ?_⟩; conv => whnf) | (intro _; conv => whnf))))
  exact h
/-- both tables stand -/
def TabOk (σ : Sto) (K : KV) (p m : Nat) : Prop := σ 3 0 11 = old K ∧ (∀ a, 0 ≤ a → a ≤ old K → Mn (pre K (acK K) (old K) p a) 268435456 (σ 24 p a)) ∧ (∀ a, 0 ≤ a → a ≤ old K → Mn (cont K (acK K) (old K) m p a) 268435456 (σ 25 p a))
theorem TabOk_of {σ : Sto} {K : KV} (hr : RecOk σ K) (h12 : σ 3 0 12 = 1) (h13 : σ 3 0 13 = 1) {p m : Nat} (hp : (p : Int) + m = K 7 0) : TabOk σ K p m := by
  have b := hr.2.2.1 h12
  have a := (hr.2.2.2.1 h13).2
  refine ⟨b.1, fun x x0 x1 => ?_, fun x x0 x1 => ?_⟩
  · exact a p x (by omega) (by omega) x0 x1
  · have := b.2.1 p x (by omega) (by omega) x0 x1
    rwa [show (K 7 0 - (p : Int)).toNat = m by omega] at this
theorem t_X2_leastWithoutAsh {d : Nat} (hd : 6 ≤ d) {σ : Sto} {Q : Post} {K : KV} {p m : Nat} (hK : vwC σ 0 = K) (hw : WFK K) (hr : RecOk σ K) (hp : (p : Int) + m = K 7 0) (hq : ∀ σ' v, offR σ σ' → RecOk σ' K → TabOk σ' K p m → v ≤ 268435456 → (∀ a, 0 ≤ a → a ≤ old K → v ≤ σ' 24 p a + σ' 25 p a) → (v = 268435456 ∨ ∃ a, (0 ≤ a ∧ a ≤ old K) ∧ v = σ' 24 p a + σ' 25 p a) → Q (some (.inl v)) σ') : WPd d m_X2_leastWithoutAsh [.inr (3, 0), .inl p] σ Q := by
  obtain ⟨d, rfl⟩ : ∃ k, d = k + 1 := ⟨d - 1, by omega⟩
  refine wpd_of fun P hT hP => ?_
  have hn := hw.1
  have ob := old_b hw
  (refine go (t := tb_X2_leastWithoutAsh) (WPd_mono d) hP 60 [9] ?_; (conv => whnf); (repeat' (first | (refine ⟨fun _ => ?_, fun _ => ?_⟩ <;> first | (exfalso; omega) | (conv => whnf)) | (refine ⟨by omega, ?_⟩; conv => whnf) | (intro _; conv => whnf))))
  refine t_X2_makeAbove (by omega) hK hw hr (fun ρ fo ro t12 t13 => ?_)
  have tb := TabOk_of ro t12 t13 hp
  have t11 := tb.1
  have L : ∀ (n : Nat) (i v : Int), n = (old K + 1 - i).toNat → 0 ≤ i → i ≤ old K + 1 → -2000000000 ≤ v → v ≤ 268435456 → (∀ a, 0 ≤ a → a < i → v ≤ ρ 24 p a + ρ 25 p a) → (v = 268435456 ∨ ∃ a, (0 ≤ a ∧ a ≤ old K) ∧ v = ρ 24 p a + ρ 25 p a) → P 9 [.inr (3, 0), .inl p, .inl v, .inl i] [] ρ := by
    intro n
    induction n with
    | zero =>
      intro i v hn0 i0 i1 v0 v1 v2 v3
      have X := hq ρ v fo ro tb v1 (fun a a0 a1 => v2 a a0 (by omega)) v3
      clear v3
      (refine go (t := tb_X2_leastWithoutAsh) (WPd_mono d) hP 60 [9] ?_; (conv => whnf); (repeat' (first | (refine ⟨fun _ => ?_, fun _ => ?_⟩ <;> first | (exfalso; omega) | (conv => whnf)) | (refine ⟨by omega, ?_⟩; conv => whnf) | (intro _; conv => whnf))))
      exact X
    | succ n ih =>
      intro i v hn0 i0 i1 v0 v1 v2 v3
      have b1 := pre_v hw (by omega) (tb.2.1 i i0 (by omega))
      have b2 := cont_v hw (by omega) (tb.2.2 i i0 (by omega))
      have X := fun z1 z2 z3 => ih (i + 1) (min v (ρ 24 p i + ρ 25 p i)) z1 z2 z3 (by clear v3; omega) (by clear v3; omega) (fun a a0 a1 => by
        clear v3
        by_cases c : a = i
        · subst c
          omega
        · have := v2 a a0 (by omega)
          omega) (by
        by_cases c : v ≤ ρ 24 p i + ρ 25 p i
        · rw [Int.min_eq_left c]
          exact v3
        · rw [Int.min_eq_right (by clear v3; omega)]
          exact Or.inr ⟨i, ⟨i0, by clear v3; omega⟩, rfl⟩)
      clear v3
      (refine go (t := tb_X2_leastWithoutAsh) (WPd_mono d) hP 60 [9] ?_; (conv => whnf); (repeat' (first | (refine ⟨fun _ => ?_, fun _ => ?_⟩ <;> first | (exfalso; omega) | (conv => whnf)) | (refine ⟨by omega, ?_⟩; conv => whnf) | (intro _; conv => whnf))))
      refine t_X2_costThrough (by omega) (by omega) (by omega) ?_
      ((conv => whnf); (repeat' (first | (refine ⟨fun _ => ?_, fun _ => ?_⟩ <;> first | (exfalso; omega) | (conv => whnf)) | (refine ⟨by omega, ?_⟩; conv => whnf) | (intro _; conv => whnf))))
      exact X (by omega) (by omega) (by omega)
  ((conv => whnf); (repeat' (first | (refine ⟨fun _ => ?_, fun _ => ?_⟩ <;> first | (exfalso; omega) | (conv => whnf)) | (refine ⟨by omega, ?_⟩; conv => whnf) | (intro _; conv => whnf))))
  exact L _ 0 _ rfl (by omega) (by omega) (by decide) (by omega) (fun a a0 a1 => by omega) (Or.inl rfl)
theorem t_X2_leastWithAsh {d : Nat} (hd : 6 ≤ d) {σ : Sto} {Q : Post} {K : KV} {p m : Nat} {ma mu : Int} (hK : vwC σ 0 = K) (hw : WFK K) (hr : RecOk σ K) (hp : (p : Int) + m = K 7 0) (hma : 0 ≤ ma ∧ ma ≤ 500) (hmu : 0 ≤ mu ∧ mu ≤ 9) (hq : ∀ σ' v, offR σ σ' → RecOk σ' K → TabOk σ' K p m → v ≤ 268435456 → (∀ a, 0 ≤ a → a ≤ old K → dif a ma ≤ mu → v ≤ σ' 24 p a + σ' 25 p a + dif a ma * K 6 3) → (v = 268435456 ∨ ∃ a, (0 ≤ a ∧ a ≤ old K) ∧ dif a ma ≤ mu ∧ v = σ' 24 p a + σ' 25 p a + dif a ma * K 6 3) → Q (some (.inl v)) σ') : WPd d m_X2_leastWithAsh [.inr (3, 0), .inl p, .inl ma, .inl mu] σ Q := by
  obtain ⟨d, rfl⟩ : ∃ k, d = k + 1 := ⟨d - 1, by omega⟩
  refine wpd_of fun P hT hP => ?_
  have hn := hw.1
  have ob := old_b hw
  have gb := hw.2.2.2.2.2 3 (by omega) (by omega)
  (refine go (t := tb_X2_leastWithAsh) (WPd_mono d) hP 60 [29] ?_; (conv => whnf); (repeat' (first | (refine ⟨fun _ => ?_, fun _ => ?_⟩ <;> first | (exfalso; omega) | (conv => whnf)) | (refine ⟨by omega, ?_⟩; conv => whnf) | (intro _; conv => whnf))))
  refine t_X2_makeAbove (by omega) hK hw hr (fun ρ fo ro t12 t13 => ?_)
  have tb := TabOk_of ro t12 t13 hp
  have t11 := tb.1
  have h63 : K 6 3 = ρ 23 0 3 := by
    have := (vw_in (σ := σ) (c := 0)).2.2 (show (0 : Int) ≤ 3 by omega) (by omega)
    rw [hK] at this
    rw [this, fo 23 0 (by decide) (by decide) (by decide) (by decide)]
  rw [h63] at hq gb
  have L : ∀ (n : Nat) (i v : Int), n = (min (old K) (ma + mu) + 1 - i).toNat → max 0 (ma - mu) ≤ i → i ≤ max (min (old K) (ma + mu) + 1) (max 0 (ma - mu)) → -2000000000 ≤ v → v ≤ 268435456 → (∀ a, 0 ≤ a → a < i → dif a ma ≤ mu → v ≤ ρ 24 p a + ρ 25 p a + dif a ma * ρ 23 0 3) → (v = 268435456 ∨ ∃ a, (0 ≤ a ∧ a ≤ old K) ∧ dif a ma ≤ mu ∧ v = ρ 24 p a + ρ 25 p a + dif a ma * ρ 23 0 3) → P 29 [.inr (3, 0), .inl p, .inl ma, .inl mu, .inl v, .inl (min (old K) (ma + mu)), .inl i] [] ρ := by
    intro n
    induction n with
    | zero =>
      intro i v hn0 i0 i1 v0 v1 v2 v3
      have X := hq ρ v fo ro tb v1 (fun a a0 a1 ad => v2 a a0 (by
        clear v3
        unfold dif at ad
        omega) ad) v3
      clear v3
      (refine go (t := tb_X2_leastWithAsh) (WPd_mono d) hP 60 [29] ?_; (conv => whnf); (repeat' (first | (refine ⟨fun _ => ?_, fun _ => ?_⟩ <;> first | (exfalso; omega) | (conv => whnf)) | (refine ⟨by omega, ?_⟩; conv => whnf) | (intro _; conv => whnf))))
      exact X
    | succ n ih =>
      intro i v hn0 i0 i1 v0 v1 v2 v3
      have i2 : 0 ≤ i ∧ i ≤ old K := by clear v3; omega
      have id : dif i ma ≤ mu := by
        clear v3
        unfold dif
        omega
      have id0 : 0 ≤ dif i ma := by
        clear v3
        unfold dif
        omega
      have b1 := pre_v hw (by clear v3; omega) (tb.2.1 i i2.1 i2.2)
      have b2 := cont_v hw (by clear v3; omega) (tb.2.2 i i2.1 i2.2)
      have b3 := mul_b (G := 9) (X := 50) id0 (by clear v3; omega) gb.1 gb.2
      have X := fun z1 z2 z3 => ih (i + 1) (min v (ρ 24 p i + ρ 25 p i + dif i ma * ρ 23 0 3)) z1 z2 z3 (by clear v3; omega) (by clear v3; omega) (fun a a0 a1 ad => by
        clear v3
        by_cases c : a = i
        · subst c
          omega
        · have := v2 a a0 (by omega) ad
          omega) (by
        by_cases c : v ≤ ρ 24 p i + ρ 25 p i + dif i ma * ρ 23 0 3
        · rw [Int.min_eq_left c]
          exact v3
        · rw [Int.min_eq_right (by clear v3; omega)]
          exact Or.inr ⟨i, i2, id, rfl⟩)
      clear v3
      (refine go (t := tb_X2_leastWithAsh) (WPd_mono d) hP 60 [29] ?_; (conv => whnf); (repeat' (first | (refine ⟨fun _ => ?_, fun _ => ?_⟩ <;> first | (exfalso; omega) | (conv => whnf)) | (refine ⟨by omega, ?_⟩; conv => whnf) | (intro _; conv => whnf))))
      rw [show max (i - ma) (-(i - ma)) = dif i ma from rfl]
      refine t_X2_costThrough (by omega) (by omega) (by omega) ?_
      ((conv => whnf); (repeat' (first | (refine ⟨fun _ => ?_, fun _ => ?_⟩ <;> first | (exfalso; omega) | (conv => whnf)) | (refine ⟨by omega, ?_⟩; conv => whnf) | (intro _; conv => whnf))))
      (refine hT 7 ?_; exact (X (by omega) (by omega) (by omega)))
  ((conv => whnf); (repeat' (first | (refine ⟨fun _ => ?_, fun _ => ?_⟩ <;> first | (exfalso; omega) | (conv => whnf)) | (refine ⟨by omega, ?_⟩; conv => whnf) | (intro _; conv => whnf))))
  rw [t11]
  exact L _ _ _ rfl (by omega) (by omega) (by decide) (by omega) (fun a a0 a1 ad => by
    unfold dif at ad
    omega) (Or.inl rfl)
