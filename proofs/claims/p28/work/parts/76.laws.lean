/-! THE LAW: its code beside the twin -/
def okL (q : Nat × AMI) : Bool := Nat.beq q.2.1 99 || chkI code 6 13 (some .int) q.1 q.2
set_option maxRecDepth 100000 in
theorem tb_okL : (tb_law.all fun c => c.2.all okL) = true := by decide +kernel
section LAWS
variable {p : Program} {l : Launch} {e : Env} {s : State} {m : MethodId} {below : List Frame} {meth : Method} {c : Code} {ad : Nat → Int → Nat} {cy : Nat → ClassId} {D : va_G} {b L : Nat} {xs : Nat → Int32} {σz : Sto}
abbrev AL (s : State) : Nat → Prop := fun q => s.heap.size ≤ q
abbrev PL (p : Program) (l : Launch) (e : Env) (s : State) (m : MethodId) (below : List Frame) (meth : Method) (c : Code) (ad : Nat → Int → Nat) (cy : Nat → ClassId) (D : va_G) (b : Nat) (σz : Sto) : Ctx := AMW p l e room_1 s m #[Value.ref b] below meth c 182 66130 (lw_Z below #[Value.ref b] s) ad cy D (AL s) s.heap 13 σz
theorem law_step (hx : p.tables.exec = Jvm.exec) (hb : c.code = code) (hr : meth.sig.returnType = ret) (hml : c.maxLocals = 13) (hown : s.vm.findClass RL = some m.cls) (hts : ∀ w ∈ BG, w.before #[Value.ref b] s = true) (hlocks : meth.locks = false) (hSW : SWd ad L xs cy D (AL s) s) (hD : ∀ σ, va_D (AL s) (cellsW ad cy σ)) (hL : L ≤ 260) (z1 : σz 41 0 (-1) = L) (z2 : ∀ j : Nat, j < L → Int32.ofInt (σz 41 0 j) = xs j) {pc : Nat} {ls st : List AV} {σ : Sto} (hs : stp (WPd 8) LQ (PL p l e s m below meth c ad cy D b σz) ls st σ (lk2 tb_law pc)) : PL p l e s m below meth c ad cy D b σz pc ls st σ := by
  rcases lk2_mem tb_law pc with q | ⟨c2, hc2, q⟩
  · rw [q] at hs
    exact hs.elim
  · have hc := List.all_eq_true.mp (List.all_eq_true.mp tb_okL c2 hc2) _ q
    unfold okL at hc
    rcases Bool.or_eq_true_iff.mp hc with h99 | hc
    · generalize lk2 tb_law pc = ins at hs h99
      obtain ⟨op, a, i1, i2, i3, nx⟩ := ins
      have e := Nat.eq_of_beq_eq_true h99
      dsimp only at e
      subst e
      exact hs.elim
    · dsimp only at hc
      refine w_step (Γ := WPd 8) (Q := LQ) (rm := rmD 8) (oc := 6) (rk := some .int) (SW := SWd ad L xs cy D (AL s)) hx hb hml hts hown hSW.1 hD ⟨by decide, by decide⟩ ⟨by decide, by decide⟩ SWd_b (fun H locs U h1 h2 h3 => SWd_H hSW h1 h2 h3) hSW.2.1 (fun y as σ Q g1 g2 g3 g4 g5 => sound l hD hL z1 z2 8 y as σ Q g1 g2 g3 g4 g5) ⟨rfl, rfl, by decide, by decide⟩ hc (fun hsp => ?_) hs
      generalize lk2 tb_law pc = ins at hs hc hsp
      obtain ⟨op, a, i1, i3, i4, nx⟩ := ins
      rcases isSp_of hsp with e | e | e | e | e | e <;> (dsimp only at e; subst e; simp only [chkI] at hc; have hc := of_decide_eq_true hc; simp only [stp] at hs)
      · unfold s_ret at hs
        split at hs
        · rename_i v
          have ev : v = 1 := by
            have hs : (some (Sum.inl v) : Option AV) = some (Sum.inl 1) := hs
            exact Sum.inl.inj (Option.some.inj hs)
          subst ev
          intro H locs lsl2 hP2 hS2 hl3 hls hst hσ2
          refine va_forget (fun q hq => hS2.2.2 q hq) ?_
          refine W.widen (k := 600000) (n := 7302250) (Nat.le_of_ble_eq_true rfl) (Nat.le_of_ble_eq_true rfl) ?_
          exact lw_ret hx hb hr hlocks hc.1
        · exact hs.elim
      · exact absurd hc.2 (by decide)
      · exact absurd hc.2 (by decide)
      · exact absurd hc.2 (by decide)
      · exact w_scrLen hx hb hSW hc.2 rfl z1 hs
      · exact w_scr hx hb hSW hL hc.2 rfl z1 z2 hs
end LAWS
