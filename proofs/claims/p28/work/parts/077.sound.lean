theorem lk_mem : ∀ (l : List (Nat × AMI)) (n : Nat), lk l n = (99, 0, 0, 0, 0, 0) ∨ (n, lk l n) ∈ l
  | [], _ => Or.inl rfl
  | (a, i) :: t, n => by
    unfold lk
    cases h : Nat.beq a n with
    | true =>
      have e := Nat.eq_of_beq_eq_true h
      subst e
      exact Or.inr List.mem_cons_self
    | false =>
      rcases lk_mem t n with q | q
      · exact Or.inl q
      · exact Or.inr (List.mem_cons_of_mem _ q)
theorem lk2_mem : ∀ (l : List (Nat × List (Nat × AMI))) (n : Nat), lk2 l n = (99, 0, 0, 0, 0, 0) ∨ ∃ c ∈ l, (n, lk2 l n) ∈ c.2
  | [], _ => Or.inl rfl
  | (b, r) :: t, n => by
    unfold lk2
    cases h : Nat.blt n b with
    | true =>
      rcases lk_mem r n with q | q
      · exact Or.inl q
      · exact Or.inr ⟨_, List.mem_cons_self, q⟩
    | false =>
      rcases lk2_mem t n with q | ⟨c, hc, q⟩
      · exact Or.inl q
      · exact Or.inr ⟨c, List.mem_cons_of_mem _ hc, q⟩
theorem tb_chk {y : Nat} (h : y < NMs) (pc : Nat) : lk2 (tbl y) pc = (99, 0, 0, 0, 0, 0) ∨ chkI (mB y) (mC y) (mL y) (mR y) pc (lk2 (tbl y) pc) = true := by
  rcases lk2_mem (tbl y) pc with q | ⟨c, hc, q⟩
  · exact Or.inl q
  · exact Or.inr (List.all_eq_true.mp (List.all_eq_true.mp (tb_ok h) c hc) _ q)
section AMX
variable {p : Program} {l : Launch} {e : Env} {R : Room} {s : State} {m : MethodId} {args : Array Value} {below : List Frame} {meth : Method} {c : Code} {cells slots : Nat} {Qw : State → Prop} {ad : Nat → Int → Nat} {L : Nat} {xs : Nat → Int32} {cy : Nat → ClassId} {D : va_G} {A0 : Nat → Prop} {nL : Nat} {cc : ByteArray} {pc : Nat} {ls st : List AV} {σ σz : Sto} {own : String}
theorem lg_len (as : List AV) : (lg_sl (as.map (conc ad))).length = as.length := by
  induction as with
  | nil => rfl
  | cons v as ih =>
    have : lg_sl ((v :: as).map (conc ad)) = Slot.val (conc ad v) :: lg_sl (as.map (conc ad)) := by
      simp only [lg_sl, List.map_cons, List.flatMap_cons, cat1]
      rfl
    rw [this, List.length_cons, ih, List.length_cons]
theorem lv_args_eq : ∀ (as : List AV) (i : Nat), lv_args i (as.map (conc ad)) = (as.zipIdx i).map fun q => (q.2, conc ad q.1)
  | [], _ => rfl
  | v :: as, i => by
    rw [List.map_cons, lv_args, if_neg (by rw [cat1]; decide), lv_args_eq as (i + 1), List.zipIdx_cons, List.map_cons]
def rmD (d : Nat) : Room := { frames := d + 1, cells := 0, slots := 0, locals := 30 * (d + 3) }
theorem isSp_of {op : Nat} (h : isSp op = true) : op = 40 ∨ op = 41 ∨ op = 42 ∨ op = 43 ∨ op = 48 ∨ op = 50 := by
  unfold isSp at h
  have e : ∀ k, Nat.beq op k = true → op = k := fun k h => Nat.eq_of_beq_eq_true h
  simp only [Bool.or_eq_true] at h
  rcases h with ((((h | h) | h) | h) | h) | h <;> (have := e _ h; omega)
theorem w_scrLen {σy : Sto} {nx : Nat} (hx : p.tables.exec = Jvm.exec) (hb : c.code = cc) (hSW : SWd ad L xs cy D A0 s) (hd : decode cc pc = .ok (.arraylength, 1) ∧ nx = pc + 1) (hz : σz 41 0 = σy 41 0) (z1 : σy 41 0 (-1) = L) (h : s_scrLen (AMW p l e R s m args below meth c cells slots Qw ad cy D A0 s.heap nL σz) ls st σ nx) : AMW p l e R s m args below meth c cells slots Qw ad cy D A0 s.heap nL σz pc ls st σ := by
  intro H locs lsl hP hS hl hls hst hσ
  obtain ⟨hd, rfl⟩ := hd
  unfold s_scrLen at h
  split at h
  · rename_i i' st'
    have hok : 0 ≤ i' ∧ i' < cntK 41 := ok_head hst
    have e0 : i' = 0 := by
      have : cntK 41 = 1 := rfl
      omega
    subst e0
    have k := h H locs lsl hP hS hl hls (ok_cons trivial (ok_tail hst)) hσ
    rw [hσ.2 41 0 (by decide), hz, z1] at k
    refine va_slen hx hb hSW.2.2.1 hSW.2.2.2.1 hSW.2.2.2.2 hS hd ?_
    have e9 : Int32.ofInt (L : Int) = Int32.ofNat L := Int32.ofInt_eq_ofNat
    rw [← e9]
    exact k
  · exact h.elim
theorem w_scr {σy : Sto} {nx : Nat} (hx : p.tables.exec = Jvm.exec) (hb : c.code = cc) (hSW : SWd ad L xs cy D A0 s) (hLn : L ≤ 260) (hd : decode cc pc = .ok (.iaload, 1) ∧ nx = pc + 1) (hz : σz 41 0 = σy 41 0) (z1 : σy 41 0 (-1) = L) (z2 : ∀ j : Nat, j < L → Int32.ofInt (σy 41 0 j) = xs j) (h : s_scr (AMW p l e R s m args below meth c cells slots Qw ad cy D A0 s.heap nL σz) ls st σ nx) : AMW p l e R s m args below meth c cells slots Qw ad cy D A0 s.heap nL σz pc ls st σ := by
  intro H locs lsl hP hS hl hls hst hσ
  obtain ⟨hd, rfl⟩ := hd
  unfold s_scr at h
  split at h
  · rename_i j i' st'
    obtain ⟨⟨j0, j1⟩, h⟩ := h
    have hok : 0 ≤ i' ∧ i' < cntK 41 := ok_head (ok_tail hst)
    have e0 : i' = 0 := by
      have : cntK 41 = 1 := rfl
      omega
    subst e0
    have k := h (hσ.1 41 0 j) H locs lsl hP hS hl hls (ok_cons trivial (ok_tail (ok_tail hst))) hσ
    rw [hσ.2 41 0 (by decide), hz] at k j1
    rw [z1] at j1
    have hin := oi_in j0 j1 (by omega)
    rw [Int.toNat_natCast] at hin
    refine va_sld hx hb hSW.2.2.1 hSW.2.2.2.1 hSW.2.2.2.2 hS hin hd ?_
    rw [oi_cl j0 (by omega)]
    have z := z2 j.toNat (by omega)
    rw [Int.toNat_of_nonneg j0] at z
    rw [← z]
    exact k
  · exact h.elim
theorem sound (l : Launch) (hD : ∀ σ, va_D A0 (cellsW ad cy σ)) (hLn : L ≤ 260) (z1 : σz 41 0 (-1) = L) (z2 : ∀ j : Nat, j < L → Int32.ofInt (σz 41 0 j) = xs j) : ∀ (d y : Nat) (as : List AV) (σ : Sto) (Q : Post), y < NMs → WPd d y as σ Q → as.length = mA y → (∀ v ∈ as, okv v) → okS σz σ → MetY l ad cy D (SWd ad L xs cy D A0) A0 (rmD d) y as σ Q
  | 0, _, _, _, _, _, h, _, _, _ => h.elim
  | d + 1, y, as, σ, Q, hy, h, hlen, hok, hσz => by
    have hσ : okS σ σ := ⟨hσz.1, fun _ _ _ => rfl⟩
    have z41 : σ 41 0 = σz 41 0 := hσz.2 41 0 (by decide)
    obtain ⟨m1, -, -, mc, -, -, -, mp, -, m7, m8, m9⟩ := mw_facts hy
    refine Met.ofW (cc := mB y) (maxL := mL y) (ret := mR y) mp rfl ?_
    intro p e s m args below meth c s₁ B hml hv
    obtain ⟨rfl, hP, hSW⟩ := hv
    have hx := B.exec
    have hb := B.bytes
    have hr := B.returns
    have hts : ∀ w ∈ BG, w.before _ s = true := fun w hw => atoms_spec B.pre w (List.mem_cons_of_mem _ hw)
    have hown0 := findClass_of_methodNamed B.named
    have hown : s.vm.findClass (RXn (mC y)) = some m.cls := by
      rw [← mc]
      exact hown0
    have hlocks := B.notSynchronized
    have hS : va_S A0 s.heap s.heap [] := va_S.rf
    have hl := lv_entry (as.map (conc ad)) (n := mL y) (by rw [lg_len]; omega)
    rw [lg_entry_eq]
    generalize (lg_sl (as.map (conc ad)) ++ List.replicate (mL y - (lg_sl (as.map (conc ad))).length) Slot.unset).toArray = lsl at hl ⊢
    have hl2 : lv_has lsl (mL y) (lmp ad as) := by
      rw [lv_args_eq] at hl
      exact hl
    have key : AMW p l e (headSpec (codeW y :: BG) (rmD (d + 1))).room s m (as.map (conc ad)).toArray below meth c 0 0 (MQ below (QmW ad cy D (SWd ad L xs cy D A0) A0 σ Q) (as.map (conc ad)).toArray s 0 0 A0) ad cy D A0 s.heap (mL y) σ 0 as [] σ := by
      apply h
      intro pc ls st σ1 hs
      have hRf : (headSpec (codeW y :: BG) (rmD (d + 1))).room.frames = d + 1 + 1 := rfl
      have hRl : (headSpec (codeW y :: BG) (rmD (d + 1))).room.locals = 30 * (d + 1 + 3) := rfl
      rcases tb_chk hy pc with hj | hc
      · rw [hj] at hs
        exact hs.elim
      · refine w_step (Γ := WPd d) (Q := Q) (rm := rmD d) (oc := mC y) (rk := mR y) (SW := SWd ad L xs cy D A0) hx hb hml hts hown hSW.1 hD ⟨by omega, by omega⟩ ⟨Nat.zero_le _, Nat.zero_le _⟩ SWd_b (fun H locs U h1 h2 h3 => SWd_H hSW h1 h2 h3) hSW.2.1 (fun y as σ Q g1 g2 g3 g4 g5 => sound l hD hLn z1 z2 d y as σ Q g1 g2 g3 g4 (okS_tr hσz g5)) ⟨rfl, rfl, by rw [hRf]; exact Nat.le_of_eq (by show d + 1 + 1 = _; omega), by rw [hRl]; show 30 + 30 * (d + 3) ≤ _; omega⟩ hc (fun hsp => ?_) hs
        have hfin : ∀ (r : Option AV) (H : Heap) (locs : List Loc), Q r σ1 → (∀ v, r = some v → okv v) → okS σ σ1 → va_P D vwCl (cellsW ad cy σ1) H → va_S A0 s.heap H locs → ∀ t : State, t.heap = H → s.WarmedH t.vm → QmW ad cy D (SWd ad L xs cy D A0) A0 σ Q (as.map (conc ad)).toArray s (.returned (r.map (conc ad))) t := fun r H locs q1 q2 q3 q4 q5 t ht hW => ⟨⟨r, σ1, rfl, q1, q3, q2, by rw [ht]; exact q4, SWd_H hSW q5 ht hW⟩, q5.F ht⟩
        generalize lk2 (tbl y) pc = ins at hs hc hsp
        obtain ⟨op, a, b, i3, i4, nx⟩ := ins
        rcases isSp_of hsp with e | e | e | e | e | e <;> (dsimp only at e; subst e; simp only [chkI] at hc; have hc := of_decide_eq_true hc; simp only [stp] at hs)
        · unfold s_ret at hs
          split at hs
          · rename_i v
            intro H locs lsl2 hP2 hS2 hl3 hls hst hσ2
            rw [hc.2] at hr
            exact W.iret hx hb hr (hfin (some (.inl v)) H locs hs (fun _ q => by cases q; trivial) hσ2 hP2 hS2) hS2.2.2 hc.1 hlocks
          · exact hs.elim
        · unfold s_retZ at hs
          split at hs
          · rename_i v
            intro H locs lsl2 hP2 hS2 hl3 hls hst hσ2
            rw [hc.2] at hr
            exact W.zret hx hb hr (by rcases hs.1 with rfl | rfl <;> rfl) (hfin (some (.inl v)) H locs hs.2 (fun _ q => by cases q; trivial) hσ2 hP2 hS2) hS2.2.2 hc.1 hlocks
          · exact hs.elim
        · unfold s_retA at hs
          split at hs
          · rename_i v
            intro H locs lsl2 hP2 hS2 hl3 hls hst hσ2
            rw [hc.2] at hr
            obtain ⟨k, i⟩ := v
            exact W.aret (v := .ref (ad k i)) hx hb hr (Or.inr ⟨_, rfl⟩) (Or.inr ⟨_, rfl⟩) (hfin (some (.inr (k, i))) H locs hs (fun _ q => by cases q; exact ok_head hst) hσ2 hP2 hS2) hS2.2.2 hc.1 hlocks
          · exact hs.elim
        · unfold s_retV at hs
          split at hs
          · intro H locs lsl2 hP2 hS2 hl3 hls hst hσ2
            rw [hc.2] at hr
            exact W.vret hx hb hr (hfin none H locs hs (fun _ q => by cases q) hσ2 hP2 hS2) hS2.2.2 hc.1 hlocks
          · exact hs.elim
        · exact w_scrLen hx hb hSW hc.2 z41 z1 hs
        · exact w_scr hx hb hSW hLn hc.2 z41 z1 z2 hs
    exact key s.heap [] lsl hP hS hl2 hok (fun v h => by cases h) hσ
end AMX
