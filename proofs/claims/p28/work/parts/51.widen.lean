/-! WHAT IS ASKED of other cores; THE CLASS: widen -/
def acB0 (K : KV) (l wi p a : Int) : Option Int := if axK K p = -1 ∨ axK K p = l then some 0 else if K 5 (axK K p) + wi < dif a (K 4 (axK K p)) then none else some (dif a (K 4 (axK K p)) * K 6 3)
def acP1 (K : KV) (ma mu wi a : Int) (x : Option Int) : Option Int := match x with
  | none => none
  | some w => if mu + wi < dif a ma then none else some (w + dif a ma * K 6 3)
def acG (K : KV) (l mp ma mu wi p a : Int) : Option Int := if p = mp then acP1 K ma mu wi a (acB0 K l wi p a) else acB0 K l wi p a
theorem acK_0 (K : KV) : acK K = acB0 K (-1) 0 := by
  funext p a
  unfold acK acB0
  by_cases c : axK K p = -1
  · rw [if_pos c, if_pos (Or.inl c)]
  · rw [if_neg c, if_neg (show ¬ (axK K p = -1 ∨ axK K p = -1) by omega), Int.add_zero]
theorem acB0_g {K : KV} (hK : WFK K) {l wi : Int} (hwi : 0 ≤ wi ∧ wi ≤ 511) : acB (acB0 K l wi) 30000 := by
  intro p a w e
  unfold acB0 at e
  have s := hK.2.2.2.2.2 3 (by omega) (by omega)
  have bx := axK_of K p hK.2.1.1
  split at e
  · cases e
    omega
  · rename_i q
    split at e
    · cases e
    · rename_i q2
      cases e
      have u := (hK.2.2.2.1 (axK K p) (by omega) (by omega)).2.2
      have d0 : 0 ≤ dif a (K 4 (axK K p)) := by
        unfold dif
        omega
      have := mul_b (G := 520) (X := 50) d0 (by omega) s.1 s.2
      omega
theorem acG_g {K : KV} (hK : WFK K) {l mp ma mu wi : Int} (hwi : 0 ≤ wi ∧ wi ≤ 511) (hmu : mu ≤ 9) : acB (acG K l mp ma mu wi) 60000 := by
  intro p a w e
  have b := acB0_g hK (l := l) hwi p a
  unfold acG acP1 at e
  split at e
  · split at e
    · cases e
    · rename_i w1 e1
      have b := b w1 e1
      split at e
      · cases e
      · rename_i q2
        cases e
        have s := hK.2.2.2.2.2 3 (by omega) (by omega)
        have d0 : 0 ≤ dif a ma := by
          unfold dif
          omega
        have := mul_b (G := 520) (X := 50) d0 (by omega) s.1 s.2
        omega
  · have := b w e
    omega
theorem cont_cg {K : KV} {ac ac' : acT} {B : Int} : ∀ (m : Nat) (p a c : Int), (∀ q x w, p < q → q ≤ p + m → ac q x = some w → ac' q x = some w) → cont K ac B m p a c → cont K ac' B m p a c
  | 0, _, _, _, _, h => h
  | m + 1, p, a, c, hc, h => by
    obtain ⟨o, g, w, c', ho, hg, hb, hw, hc', e⟩ := h
    exact ⟨o, g, w, c', ho, hg, hb, hc _ _ _ (by omega) (by omega) hw, cont_cg m (p + 1) _ c' (fun q x w q0 q1 => hc q x w (by omega) (by omega)) hc', e⟩
theorem pre_cg {K : KV} {ac ac' : acT} {B : Int} : ∀ (p : Nat) (a c : Int), (∀ (q : Int) x w, 0 ≤ q → q < p → ac q x = some w → ac' q x = some w) → pre K ac B p a c → pre K ac' B p a c
  | 0, _, _, _, h => h
  | p + 1, a, c, hc, h => by
    obtain ⟨o, g, w, c', a', ho, hg, ea, hb, hw, hc', e⟩ := h
    exact ⟨o, g, w, c', a', ho, hg, ea, hb, hc _ _ _ (by omega) (by omega) hw, pre_cg p a' c' (fun q x w q0 q1 => hc q x w q0 (by omega)) hc', e⟩
def WS (K : KV) (e c : Int) : Prop := cont K (acB0 K (-1) e) 600 (K 7 0).toNat 0 0 c
def isW (K : KV) (v : Int) : Prop := 0 ≤ v ∧ (∃ c, WS K v c) ∧ ∀ e, 0 ≤ e → e < v → ∀ c, ¬ WS K e c
theorem isW_u {K : KV} {v w : Int} (h : isW K v) (h' : isW K w) : v = w := by
  obtain ⟨a0, ⟨c, a1⟩, a2⟩ := h
  obtain ⟨b0, ⟨c', b1⟩, b2⟩ := h'
  by_cases q : v < w
  · exact absurd a1 (b2 v a0 q c)
  · by_cases q2 : w < v
    · exact absurd b1 (a2 w b0 q2 c')
    · omega
theorem WS_m {K : KV} {e e' c : Int} (h : e ≤ e') (hc : WS K e c) : WS K e' c := by
  refine cont_cg _ _ _ _ (fun q x w q0 q1 hw => ?_) hc
  unfold acB0 at hw ⊢
  split at hw
  · rename_i z
    rw [if_pos z]
    exact hw
  · rename_i z
    rw [if_neg z]
    split at hw
    · cases hw
    · rename_i z2
      rw [if_neg (by omega)]
      exact hw
theorem WS_top {K : KV} (hK : WFK K) {e : Int} (he : 500 ≤ e) : ∀ (m : Nat) (p a : Int), 0 ≤ p → p + m = K 7 0 → 0 ≤ a → a ≤ p → ∃ c, cont K (acB0 K (-1) e) 600 m p a c
  | 0, _, _, _, _, _, _ => ⟨0, rfl⟩
  | m + 1, p, a, h0, h1, a0, a1 => by
    have hn := hK.1
    have bl := lo_b (K 1 p)
    have bh := hi_b (K 1 p)
    have mb := (hK.2.2.1 p h0 (by omega)).2.2
    obtain ⟨c', hc⟩ := WS_top hK he m (p + 1) (a + lo (K 1 p) + 0) (by omega) (by omega) (by omega) (by omega)
    have some1 : ∃ w, acB0 K (-1) e (p + 1) (a + lo (K 1 p) + 0) = some w := by
      unfold acB0
      split
      · exact ⟨_, rfl⟩
      · rename_i z
        have bx := axK_of K (p + 1) hK.2.1.1
        have u := hK.2.2.2.1 (axK K (p + 1)) (by omega) (by omega)
        rw [if_neg (by unfold dif; omega)]
        exact ⟨_, rfl⟩
    obtain ⟨w, hw⟩ := some1
    exact ⟨_, lo (K 1 p), 0, w, c', by omega, by omega, by omega, hw, hc, rfl⟩
theorem fit_s {K : KV} {ac : acT} {m : Nat} {i l g l' g' : Int} (hlg : 0 ≤ l ∧ l ≤ g) (hm : 0 ≤ K 2 i) (h1 : l + lo (K 1 i) ≤ l') (h2 : g' ≤ min 600 (g + (hi (K 1 i) + K 2 i))) (hac : ∀ a, l + lo (K 1 i) ≤ a → a ≤ min 600 (g + (hi (K 1 i) + K 2 i)) → ((∃ w, ac (i + 1) a = some w) ↔ l' ≤ a ∧ a ≤ g')) : (∃ a c, (l ≤ a ∧ a ≤ g) ∧ cont K ac 600 (m + 1) i a c) ↔ ∃ a c, (l' ≤ a ∧ a ≤ g') ∧ cont K ac 600 m (i + 1) a c := by
  have bl := lo_b (K 1 i)
  have bh := hi_b (K 1 i)
  constructor
  · rintro ⟨a, c, hb, o, gg, w, c', ho, hg, hB, hw, hc, e⟩
    exact ⟨a + o + gg, c', (hac _ (by omega) (by omega)).1 ⟨w, hw⟩, hc⟩
  · rintro ⟨a, c, hb, hc⟩
    obtain ⟨w, hw⟩ := (hac a (by omega) (by omega)).2 hb
    obtain ⟨x, hx⟩ : ∃ x, x = max l (a - (hi (K 1 i) + K 2 i)) := ⟨_, rfl⟩
    obtain ⟨o, ho⟩ : ∃ o, o = min (hi (K 1 i)) (a - x) := ⟨_, rfl⟩
    refine ⟨x, _, by omega, o, a - x - o, w, c, by omega, by omega, by omega, ?_, ?_, rfl⟩
    · rw [show x + o + (a - x - o) = a by omega]
      exact hw
    · rw [show x + o + (a - x - o) = a by omega]
      exact hc
theorem t_X0_fitsWith {d : Nat} (hd : 2 ≤ d) {σ : Sto} {Q : Post} {K : KV} {e : Int} (hK : vwC σ 0 = K) (hw : WFK K) (he : 0 ≤ e ∧ e ≤ 600) (h1 : (∃ c, WS K e c) → Q (some (.inl 1)) σ) (h0 : (∀ c, ¬ WS K e c) → Q (some (.inl 0)) σ) : WPd d m_X0_fitsWith [.inr (16, 0), .inl e] σ Q := by
  obtain ⟨d, rfl⟩ : ∃ k, d = k + 1 := ⟨d - 1, by omega⟩
  refine wpd_of fun P hT hP => ?_
  have hn := hw.1
  have n2 : σ 16 0 7 = K 7 0 := by rw [← hK, vw_n]
  have ha := hw.2.1
  have a2 : σ 16 0 8 = K 7 1 := by rw [← hK, vw_a]
  have L : ∀ (n : Nat) (i l g : Int), n = (K 7 0 - i).toNat → 0 ≤ i → i ≤ K 7 0 → (0 ≤ l ∧ l ≤ g) → g ≤ 600 → ((∃ c, WS K e c) ↔ ∃ a c, (l ≤ a ∧ a ≤ g) ∧ cont K (acB0 K (-1) e) 600 n i a c) → P 7 [.inr (16, 0), .inl e, .inl l, .inl g, .inl i] [] σ := by
    intro n
    induction n with
    | zero =>
      intro i l g hn0 i0 i1 hlg hg iv
      (refine go (t := tb_X0_fitsWith) (WPd_mono d) hP 60 [7] ?_; (conv => whnf); (repeat' (first | (refine ⟨fun _ => ?_, fun _ => ?_⟩ <;> first | (exfalso; omega) | (conv => whnf)) | (refine ⟨by omega, ?_⟩; conv => whnf) | (intro _; conv => whnf))))
      exact h1 (iv.2 ⟨l, 0, by omega, rfl⟩)
    | succ n ih =>
      intro i l g hn0 i0 i1 hlg hg iv
      obtain ⟨-, v1, v2⟩ := (vw_in (σ := σ) (c := 0)).1 i0 (by omega)
      rw [hK] at v1 v2
      have bl := lo_b (K 1 i)
      have bh := hi_b (K 1 i)
      have mb := (hw.2.2.1 i i0 (by omega)).2.2
      (refine go (t := tb_X0_fitsWith) (WPd_mono d) hP 60 [7] ?_; (conv => whnf); (repeat' (first | (refine ⟨fun _ => ?_, fun _ => ?_⟩ <;> first | (exfalso; omega) | (conv => whnf)) | (refine ⟨by omega, ?_⟩; conv => whnf) | (intro _; conv => whnf))))
      refine t_X0_leastOwn (by omega) (by omega) ?_
      rw [← v1]
      ((conv => whnf); (repeat' (first | (refine ⟨fun _ => ?_, fun _ => ?_⟩ <;> first | (exfalso; omega) | (conv => whnf)) | (refine ⟨by omega, ?_⟩; conv => whnf) | (intro _; conv => whnf))))
      refine t_X0_mostYears (by omega) (by omega) ?_
      rw [← v1, ← v2]
      ((conv => whnf); (repeat' (first | (refine ⟨fun _ => ?_, fun _ => ?_⟩ <;> first | (exfalso; omega) | (conv => whnf)) | (refine ⟨by omega, ?_⟩; conv => whnf) | (intro _; conv => whnf))))
      refine t_X0_ashAt (by omega) (by omega) (by omega) ?_
      rw [ax_vw, hK]
      have bx := axK_of K (i + 1) hw.2.1.1
      have o1 : n = (K 7 0 - (i + 1)).toNat := by clear iv; omega
      have o2 : 0 ≤ i + 1 := by clear iv; omega
      have o3 : i + 1 ≤ K 7 0 := by clear iv; omega
      by_cases c : axK K (i + 1) = -1
      · rw [c]
        have st := fit_s (K := K) (ac := acB0 K (-1) e) (m := n) (i := i) (l' := l + lo (K 1 i)) (g' := min 600 (g + (hi (K 1 i) + K 2 i))) hlg (by omega) (by omega) (by omega) (fun a a0 a1 => by
          unfold acB0
          rw [if_pos (Or.inl c)]
          exact ⟨fun _ => by omega, fun _ => ⟨_, rfl⟩⟩)
        have X := fun z1 z2 => ih (i + 1) (l + lo (K 1 i)) (min 600 (g + (hi (K 1 i) + K 2 i))) o1 o2 o3 z1 z2 (iv.trans st)
        have Y := fun (z : ¬ l + lo (K 1 i) ≤ min 600 (g + (hi (K 1 i) + K 2 i))) => h0 (fun c hc => by
          obtain ⟨a, c', hb, _⟩ := (iv.trans st).1 ⟨c, hc⟩
          clear iv st
          omega)
        clear iv st
        ((conv => whnf); (repeat' (first | (refine ⟨fun _ => ?_, fun _ => ?_⟩ <;> first | (exfalso; omega) | (conv => whnf)) | (refine ⟨by omega, ?_⟩; conv => whnf) | (intro _; conv => whnf))))
        · (refine hT 5 ?_; exact (X (by omega) (by omega)))
        · exact Y (by omega)
      · obtain ⟨w0, w1, w2⟩ := (vw_in (σ := σ) (c := 0)).2.1 (show 0 ≤ axK K (i + 1) by omega) (by omega)
        rw [hK] at w1 w2
        have u := hw.2.2.2.1 (axK K (i + 1)) (by omega) (by omega)
        have st := fit_s (K := K) (ac := acB0 K (-1) e) (m := n) (i := i) (l' := max (l + lo (K 1 i)) (K 4 (axK K (i + 1)) - K 5 (axK K (i + 1)) - e)) (g' := min (min 600 (g + (hi (K 1 i) + K 2 i))) (K 4 (axK K (i + 1)) + K 5 (axK K (i + 1)) + e)) hlg (by omega) (by omega) (by omega) (fun a a0 a1 => by
          unfold acB0
          rw [if_neg (by omega)]
          by_cases z : K 5 (axK K (i + 1)) + e < dif a (K 4 (axK K (i + 1)))
          · rw [if_pos z]
            unfold dif at z
            exact ⟨fun ⟨_, q⟩ => (by cases q), fun q => (by omega)⟩
          · rw [if_neg z]
            unfold dif at z
            exact ⟨fun _ => by omega, fun _ => ⟨_, rfl⟩⟩)
        have X := fun z1 z2 => ih (i + 1) (max (l + lo (K 1 i)) (K 4 (axK K (i + 1)) - K 5 (axK K (i + 1)) - e)) (min (min 600 (g + (hi (K 1 i) + K 2 i))) (K 4 (axK K (i + 1)) + K 5 (axK K (i + 1)) + e)) o1 o2 o3 z1 z2 (iv.trans st)
        have Y := fun (z : ¬ max (l + lo (K 1 i)) (K 4 (axK K (i + 1)) - K 5 (axK K (i + 1)) - e) ≤ min (min 600 (g + (hi (K 1 i) + K 2 i))) (K 4 (axK K (i + 1)) + K 5 (axK K (i + 1)) + e)) => h0 (fun c hc => by
          obtain ⟨a, c', hb, _⟩ := (iv.trans st).1 ⟨c, hc⟩
          clear iv st
          omega)
        clear iv st
        ((conv => whnf); (repeat' (first | (refine ⟨fun _ => ?_, fun _ => ?_⟩ <;> first | (exfalso; omega) | (conv => whnf)) | (refine ⟨by omega, ?_⟩; conv => whnf) | (intro _; conv => whnf))))
        rw [← w1, ← w2]
        ((conv => whnf); (repeat' (first | (refine ⟨fun _ => ?_, fun _ => ?_⟩ <;> first | (exfalso; omega) | (conv => whnf)) | (refine ⟨by omega, ?_⟩; conv => whnf) | (intro _; conv => whnf))))
        · (refine hT 5 ?_; exact (X (by omega) (by omega)))
        · exact Y (by omega)
  (refine go (t := tb_X0_fitsWith) (WPd_mono d) hP 60 [7] ?_; (conv => whnf); (repeat' (first | (refine ⟨fun _ => ?_, fun _ => ?_⟩ <;> first | (exfalso; omega) | (conv => whnf)) | (refine ⟨by omega, ?_⟩; conv => whnf) | (intro _; conv => whnf))))
  exact L _ 0 0 0 rfl (by omega) (by omega) (by omega) (by omega) (by
    rw [Int.sub_zero]
    constructor
    · rintro ⟨c, hc⟩
      exact ⟨0, c, by omega, hc⟩
    · rintro ⟨a, c, hb, hc⟩
      rw [show a = 0 by omega] at hc
      exact ⟨c, hc⟩)
def p2 : Nat → Int
  | 0 => 0
  | 1 => 1
  | n + 2 => 2 * p2 (n + 1)
theorem t_X4_widen {d : Nat} (hd : 3 ≤ d) {σ : Sto} {Q : Post} {K : KV} {h : Int} {HK : Int → KV} {tl : Int} {tx : Int → Int} (hC : ClassR σ K h HK tl tx) (hyes : ∀ v, isW K v → Q (some (.inl v)) σ) : WPd d m_X4_widen [.inr (0, 0)] σ Q := by
  obtain ⟨d, rfl⟩ : ∃ k, d = k + 1 := ⟨d - 1, by omega⟩
  intro P hP
  obtain ⟨hK, hw, hh, htx, hr⟩ := hC
  have L : ∀ (n : Nat) (t : Int), 0 ≤ t → 0 ≤ p2 n → t + 2 * p2 n ≤ 512 → (∀ e, 0 ≤ e → e < t → ∀ c, ¬ WS K e c) → (0 < p2 n → ∃ c, WS K (t + 2 * p2 n - 1) c) → (p2 n = 0 → ∃ c, WS K t c) → P 6 [.inr (0, 0), .inl t, .inl (p2 n)] [] σ := by
    intro n
    induction n with
    | zero =>
      intro t t0 d0 tb no f1 f2
      have e : p2 0 = 0 := rfl
      rw [e]
      (refine go (t := tb_X4_widen) (WPd_mono d) hP 60 [6] ?_; (conv => whnf); (repeat' (first | (refine ⟨fun _ => ?_, fun _ => ?_⟩ <;> first | (exfalso; omega) | (conv => whnf)) | (refine ⟨by omega, ?_⟩; conv => whnf) | (intro _; conv => whnf))))
      exact hyes t ⟨t0, f2 e, no⟩
    | succ n ih =>
      intro t t0 d0 tb no f1 f2
      have hp : 0 < p2 (n + 1) ∧ p2 (n + 1) / 2 = p2 n ∧ (p2 n = 0 ∨ p2 (n + 1) = 2 * p2 n) := by
        cases n with
        | zero => exact ⟨by decide, by decide, Or.inl rfl⟩
        | succ n =>
          have e : p2 (n + 1 + 1) = 2 * p2 (n + 1) := rfl
          have pos : ∀ k, 0 < p2 (k + 1) := fun k => by
            induction k with
            | zero => decide
            | succ k ik =>
              have e : p2 (k + 1 + 1) = 2 * p2 (k + 1) := rfl
              omega
          have := pos n
          exact ⟨by omega, by omega, Or.inr e⟩
      have p1 : p2 n = 0 → p2 (n + 1) = 1 := fun z => by
        cases n with
        | zero => rfl
        | succ n =>
          have e : p2 (n + 1 + 1) = 2 * p2 (n + 1) := rfl
          omega
      (refine go (t := tb_X4_widen) (WPd_mono d) hP 60 [6] ?_; (conv => whnf); (repeat' (first | (refine ⟨fun _ => ?_, fun _ => ?_⟩ <;> first | (exfalso; omega) | (conv => whnf)) | (refine ⟨by omega, ?_⟩; conv => whnf) | (intro _; conv => whnf))))
      refine t_X0_fitsWith (by omega) hK hw (by omega) (fun ex => ?_) (fun ne => ?_)
      · ((conv => whnf); (repeat' (first | (refine ⟨fun _ => ?_, fun _ => ?_⟩ <;> first | (exfalso; omega) | (conv => whnf)) | (refine ⟨by omega, ?_⟩; conv => whnf) | (intro _; conv => whnf))))
        rw [hp.2.1]
        refine ih t t0 (by omega) (by omega) no (fun z => ?_) (fun z => ?_)
        · rw [show t + 2 * p2 n - 1 = t + p2 (n + 1) - 1 by omega]
          exact ex
        · have := p1 z
          rw [show t + p2 (n + 1) - 1 = t by omega] at ex
          exact ex
      · ((conv => whnf); (repeat' (first | (refine ⟨fun _ => ?_, fun _ => ?_⟩ <;> first | (exfalso; omega) | (conv => whnf)) | (refine ⟨by omega, ?_⟩; conv => whnf) | (intro _; conv => whnf))))
        rw [hp.2.1]
        refine ih (t + p2 (n + 1)) (by omega) (by omega) (by omega) (fun e e0 e1 c hc => ne c (WS_m (by omega) hc)) (fun z => ?_) (fun z => ?_)
        · rw [show t + p2 (n + 1) + 2 * p2 n - 1 = t + 2 * p2 (n + 1) - 1 by omega]
          exact f1 hp.1
        · have := p1 z
          rw [show t + p2 (n + 1) = t + 2 * p2 (n + 1) - 1 by omega]
          exact f1 hp.1
  (refine go (t := tb_X4_widen) (WPd_mono d) hP 60 [6] ?_; (conv => whnf); (repeat' (first | (refine ⟨fun _ => ?_, fun _ => ?_⟩ <;> first | (exfalso; omega) | (conv => whnf)) | (refine ⟨by omega, ?_⟩; conv => whnf) | (intro _; conv => whnf))))
  have top : ∃ c, WS K (0 + 2 * p2 9 - 1) c := by
    have hn := hw.1
    exact WS_top hw (by decide) _ 0 0 (by omega) (by omega) (by omega) (by omega)
  exact L 9 0 (by decide) (by decide) (by decide) (fun e e0 e1 => by omega) (fun _ => top) (fun z => by cases z)
