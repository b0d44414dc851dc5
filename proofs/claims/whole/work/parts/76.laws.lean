/-! THE LAW: its code beside the twin -/
def okL (q : Nat × AMI) : Bool := Nat.beq q.2.1 99 || (chkI code 6 4 (some .int) q.1 q.2 && !(Nat.beq q.2.1 47))
set_option maxRecDepth 100000 in
theorem tb_okL : (tb_law2.all fun c => c.2.all okL) = true := by decide +kernel
theorem and31 (x : Int) : Int32.ofInt x &&& Int32.ofInt 31 = Int32.ofInt (x % 32) := by
  apply Int32.toBitVec_inj.mp
  show BitVec.ofInt 32 x &&& BitVec.ofInt 32 31 = BitVec.ofInt 32 (x % 32)
  apply BitVec.eq_of_toNat_eq
  rw [BitVec.toNat_and, BitVec.toNat_ofInt, BitVec.toNat_ofInt, BitVec.toNat_ofInt]
  have e : ((31 : Int) % ((2 ^ 32 : Nat) : Int)).toNat = 2 ^ 5 - 1 := by decide
  rw [e, Nat.and_two_pow_sub_one_eq_mod]
  omega
section LAWS
variable {p : Program} {l : Launch} {e : Env} {s : State} {m : MethodId} {below : List Frame} {meth : Method} {c : Code} {ad : Nat → Int → Nat} {adV : Nat → Nat} {cy : Nat → ClassId} {D : va_G} {b L : Nat} {xs : Nat → Int32} {σz : Sto}
abbrev AL (s : State) : Nat → Prop := fun q => s.heap.size ≤ q
abbrev PL (p : Program) (l : Launch) (e : Env) (s : State) (m : MethodId) (below : List Frame) (meth : Method) (c : Code) (ad : Nat → Int → Nat) (cy : Nat → ClassId) (D : va_G) (b : Nat) (σz : Sto) : Ctx := AMW p l e room_1 s m #[Value.ref b] below meth c 192 129082 (lw_Z below #[Value.ref b] s) ad cy D (AL s) s.heap 4 σz
theorem law_step (hx : p.tables.exec = Jvm.exec) (hb : c.code = code) (hr : meth.sig.returnType = ret) (hml : c.maxLocals = 4) (hown : s.vm.findClass RL = some m.cls) (hts : ∀ w ∈ BG, w.before #[Value.ref b] s = true) (hX : va_X b L xs s s.heap) (hbl : b < s.heap.size) (hlocks : meth.locks = false) (hSW : SWd ad adV cy D (AL s) s) (hD : ∀ σ, va_D (AL s) (cellsW ad cy σ)) (ha : ad 41 0 = b) (hL : L ≤ 2560) (z1 : σz 41 0 (-1) = L) (z2 : ∀ j : Nat, j < L → Int32.ofInt (σz 41 0 j) = xs j) {pc : Nat} {ls st : List AV} {σ : Sto} (hs : stp (WPd 7) LQ (PL p l e s m below meth c ad cy D b σz) ls st σ (lk2 tb_law2 pc)) : PL p l e s m below meth c ad cy D b σz pc ls st σ := by
  have hbA : ¬ AL s b := Nat.not_le.mpr hbl
  rcases lk2_mem tb_law2 pc with q | ⟨c2, hc2, q⟩
  · rw [q] at hs
    exact hs.elim
  · have hc := List.all_eq_true.mp (List.all_eq_true.mp tb_okL c2 hc2) _ q
    unfold okL at hc
    rcases Bool.or_eq_true_iff.mp hc with h99 | hc
    · generalize lk2 tb_law2 pc = ins at hs h99
      obtain ⟨op, a, i1, i2, i3, nx⟩ := ins
      have e := Nat.eq_of_beq_eq_true h99
      dsimp only at e
      subst e
      exact hs.elim
    · dsimp only at hc
      obtain ⟨hc, h47⟩ := Bool.and_eq_true_iff.mp hc
      refine w_step (Γ := WPd 7) (Q := LQ) (rm := rmD 7) (oc := 6) (rk := some .int) (SW := SWd ad adV cy D (AL s)) hx hb hml hts hown hSW.1 hD ⟨by decide, by decide⟩ ⟨by decide, by decide⟩ SWd_b (fun H locs U h1 h2 h3 => SWd_H hSW h1 h2 h3) hSW.2.1 (fun y as σ Q g1 g2 g3 g4 g5 => sound l hD 7 y as σ Q g1 g2 g3 g4 g5) ⟨rfl, rfl, by decide, by decide⟩ hc (fun hsp => ?_) hs
      generalize lk2 tb_law2 pc = ins at hs hc hsp h47
      obtain ⟨op, a, i1, i3, i4, nx⟩ := ins
      rcases isSp_of hsp with e | e | e | e | e | e | e | e | e | e <;> (dsimp only at e; subst e; simp only [chkI] at hc; have hc := of_decide_eq_true hc; simp only [stp] at hs)
      · exact absurd hc.2.2.1 (by decide)
      · have f := ((mm_str _ hc.2.2).1 rfl).1
        dsimp only at f
        omega
      · have f := ((mm_str _ hc.2.2).2 rfl).1
        dsimp only at f
        omega
      · unfold s_ret at hs
        split at hs
        · rename_i v
          have ev : v = 1 := by
            have hs : (some (Sum.inl v) : Option AV) = some (Sum.inl 1) := hs
            exact Sum.inl.inj (Option.some.inj hs)
          subst ev
          intro H locs lsl2 hP2 hS2 hl3 hls hst hσ2
          refine va_forget (fun q hq => hS2.2.2 q hq) ?_
          refine W.widen (k := 600000) (n := 7302249) (Nat.le_of_ble_eq_true rfl) (Nat.le_of_ble_eq_true rfl) ?_
          exact lw_ret hx hb hr hlocks hc.1
        · exact hs.elim
      · exact absurd hc.2 (by decide)
      · exact absurd hc.2 (by decide)
      · exact absurd hc.2 (by decide)
      · cases h47
      · unfold s_scrLen at hs
        split at hs
        · rename_i i' st'
          intro H locs lsl2 hP2 hS2 hl3 hls hst hσ2
          obtain ⟨-, hd, rfl⟩ := hc
          have hok : 0 ≤ i' ∧ i' < cntK 41 := ok_head hst
          have e0 : i' = 0 := by
            have : cntK 41 = 1 := rfl
            omega
          subst e0
          have k := hs H locs lsl2 hP2 hS2 hl3 hls (ok_cons trivial (ok_tail hst)) hσ2
          rw [hσ2.2 41 0 (by decide), z1] at k
          have es : (Sum.inr (41, 0) :: st' : List AV).map (conc ad) = .ref b :: st'.map (conc ad) := by
            rw [List.map_cons]
            show Value.ref (ad 41 0) :: _ = _
            rw [ha]
          rw [es]
          refine va_slen hx hb hX hbl hbA hS2 hd ?_
          have e9 : Int32.ofInt (L : Int) = Int32.ofNat L := Int32.ofInt_eq_ofNat
          rw [← e9]
          exact k
        · exact hs.elim
      · unfold s_scr at hs
        split at hs
        · rename_i j i' st'
          obtain ⟨⟨j0, j1⟩, hs⟩ := hs
          intro H locs lsl2 hP2 hS2 hl3 hls hst hσ2
          obtain ⟨-, hd, rfl⟩ := hc
          have hok : 0 ≤ i' ∧ i' < cntK 41 := ok_head (ok_tail hst)
          have e0 : i' = 0 := by
            have : cntK 41 = 1 := rfl
            omega
          subst e0
          have k := hs (hσ2.1 41 0 j) H locs lsl2 hP2 hS2 hl3 hls (ok_cons trivial (ok_tail (ok_tail hst))) hσ2
          rw [hσ2.2 41 0 (by decide)] at k j1
          rw [z1] at j1
          have es : (Sum.inl j :: Sum.inr (41, 0) :: st' : List AV).map (conc ad) = .int (Int32.ofInt j) :: .ref b :: st'.map (conc ad) := by
            rw [List.map_cons, List.map_cons]
            show Value.int (Int32.ofInt j) :: Value.ref (ad 41 0) :: _ = _
            rw [ha]
          rw [es]
          have hin := oi_in j0 j1 (by omega)
          rw [Int.toNat_natCast] at hin
          refine va_sld hx hb hX hbl hbA hS2 hin hd ?_
          rw [oi_cl j0 (by omega)]
          have z := z2 j.toNat (by omega)
          rw [Int.toNat_of_nonneg j0] at z
          rw [← z]
          exact k
        · exact hs.elim
theorem law_31 (hx : p.tables.exec = Jvm.exec) (hb : c.code = code) {ls st : List AV} {x : Int} {σ : Sto} (h : PL p l e s m below meth c ad cy D b σz 32 ls (.inl (x % 32) :: st) σ) : PL p l e s m below meth c ad cy D b σz 31 ls (.inl 31 :: .inl x :: st) σ := by
  intro H locs lsl hP hS hl hls hst hσ
  have k := h H locs lsl hP hS hl hls (ok_cons trivial (ok_tail (ok_tail hst))) hσ
  have k : W p l e room_1 s m #[Value.ref b] below meth c H locs 192 129082 (lw_Z below #[Value.ref b] s) (F0 m (31 + 1) lsl (.int (Int32.ofInt (x % 32)) :: st.map (conc ad))) := k
  rw [← and31] at k
  exact lv_iand hx hb (by decide +kernel : decode code 31 = .ok (.iand, 1)) k
end LAWS
