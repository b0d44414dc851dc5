/-! THE LAW from its entry -/
set_option maxRecDepth 100000 in
theorem d_law_0 : decode code 0 = .ok (.new 16, 3) := by decide +kernel
set_option maxRecDepth 100000 in
theorem d_law_3 : decode code 3 = .ok (.dup, 1) := by decide +kernel
set_option maxRecDepth 100000 in
theorem d_law_4 : decode code 4 = .ok (.invokespecial 67, 3) := by decide +kernel
set_option maxRecDepth 100000 in
theorem d_law_7 : decode code 7 = .ok (.astore_n 1, 1) := by decide +kernel
set_option maxRecDepth 100000 in
theorem kw_18 : Jvm.Cond.initialized RX4 ∈ BG := bg_of 18 rfl rfl
set_option maxRecDepth 100000 in
theorem kw_25 : Jvm.Cond.classLink RL 16 RX4 ∈ BG := bg_of 25 rfl rfl
set_option maxRecDepth 100000 in
theorem kw_26 : Jvm.Cond.instantiable RX4 4 ∈ BG := bg_of 26 rfl rfl
set_option maxRecDepth 100000 in
theorem kw_27 : Jvm.Cond.methodLink RL 67 yX4_init ∈ BG := bg_of 27 rfl rfl
set_option maxRecDepth 100000 in
theorem kw_28 : Jvm.Cond.instanceMethod yX4_init ∈ BG := bg_of 28 rfl rfl
set_option maxRecDepth 100000 in
theorem kw_c4 : Jvm.Cond.code yX4_init cX4_init 1 none ∈ BG := bg_of 29 rfl rfl
set_option maxHeartbeats 16000000 in
set_option maxRecDepth 100000 in
/-- the walk up to the twin -/
theorem whole_start_of (hG : Mna) {p : Program} {e : Env} {s : State} {m : MethodId} {below : List Frame} {meth : Method} {c : Code} (l : Launch) (hflags : l.flags = flags0) {b L : Nat} {xs : Nat → Int32} (hL : L ≤ 260) (C0 : lw_At p s m meth c b L xs) : W p l e room_1 s m #[Value.ref b] below meth c s.heap [] 0 0 (lw_Z below #[Value.ref b] s) (entryFrame m ([Value.ref b] : List Value).toArray 13) := by
  obtain ⟨hx, hb, hr, hml, hown0, hts0, hX, hbl, hlocks, hgv⟩ := id C0
  have hown : s.vm.findClass RL = some m.cls := hown0
  have hts : ∀ w ∈ BG, w.before #[Value.ref b] s = true := fun w hw => hts0 w (bg_in hw)
  obtain ⟨A, eA⟩ : ∃ A, AL s = A := ⟨_, rfl⟩
  have hA : ∀ q : Nat, s.heap.size ≤ q → A q := fun q h => by rw [← eA]; exact h
  obtain ⟨c0, i0, k0⟩ := u_known (C := RX0) (T := TX0) (N := 9) (n := 9) hts uw0 (hts _ kw_34)
  obtain ⟨c1, i1, k1⟩ := u_known (C := RX1) (T := TX1) (N := 3) (n := 3) hts uw1 (hts _ kw_80)
  obtain ⟨c2, i2, k2⟩ := u_known (C := RX2) (T := TX2) (N := 15) (n := 15) hts uw2 (hts _ kw_122)
  obtain ⟨c3, i3, k3⟩ := u_known (C := RX3) (T := TX3) (N := 4) (n := 4) hts uw3 (hts _ kw_100)
  obtain ⟨c4, i4, k4⟩ := u_known (C := RX4) (T := TX4) (N := 4) (n := 4) hts uw4 (hts _ kw_26)
  obtain ⟨dC, dI, hKc0⟩ : ∃ (dC : Nat → ClassId) (dI : Nat → Nat → Nat), ∀ (k : Nat) (q : vw_C), vwCl[k]? = some q → u_Kn s q.1 q.2.1 q.2.2 (dC k) (dI k) := by
    refine ⟨fun k => [c0, c1, c2, c3, c4].getD k c0, fun k => [i0, i1, i2, i3, i4].getD k i0, ?_⟩
    intro k q hq
    match k, hq with
    | 0, hq => cases hq; exact k0
    | 1, hq => cases hq; exact k1
    | 2, hq => cases hq; exact k2
    | 3, hq => cases hq; exact k3
    | 4, hq => cases hq; exact k4
    | k + 5, hq => simp [vwCl] at hq
  obtain ⟨D, eD⟩ : ∃ D : va_G, D = (dC, dI) := ⟨_, rfl⟩
  have hKc1 : ∀ (k : Nat) (q : vw_C), vwCl[k]? = some q → u_Kn s q.1 q.2.1 q.2.2 (D.1 k) (D.2 k) := by rw [eD]; exact hKc0
  have hEO : va_AO RX0 s := va_AO.of (hts0 _ (List.mem_of_getElem? (i := 86) rfl))
  have hEA : va_AOA .int s := (hts0 _ (List.mem_of_getElem? (i := 128) rfl) : (Cond.arrayOver (.array .int)).before #[Value.ref b] s = true)
  have hn1 : va_Nw (.methodLinkNest RX2 173 yX4_isWithin RX4) s := va_Nw.of rfl (hts0 _ (List.mem_of_getElem? (i := 377) rfl))
  have hS : va_S A s.heap s.heap [] := va_S.rf
  have hK : va_K D vwCl [] s := ⟨hKc1, fun k q h => by simp at h⟩
  have hP : va_P D vwCl [] s.heap := fun k q h => by simp at h
  have hD : va_D A [] := ⟨fun i j p q h => by simp at h, fun k q h => by simp at h⟩
  have hl := lv_entry ([.ref b]) (n := 13) (Nat.le_of_ble_eq_true rfl)
  rw [lg_entry_eq]
  generalize (lg_sl ([.ref b]) ++ List.replicate (13 - (lg_sl ([.ref b])).length) Slot.unset).toArray = ls at hl ⊢
  have hl : lv_has ls 13 [(0, .ref b)] := hl
  refine va_new (ci := 4) (fs := [.null, .null, .null, .null]) (C := RX4) (T := TX4) (N := 4) hx hb hts uw4 tyX4 tyX4_ok hown (hts _ kw_25) (hts _ kw_26) (hts _ kw_18) hK hP hD hS hA rfl (fun j hj => by rcases (show j = 0 ∨ j = 1 ∨ j = 2 ∨ j = 3 by omega) with rfl | rfl | rfl | rfl <;> rfl) (Nat.le_of_ble_eq_true rfl) (Nat.le_of_ble_eq_true rfl) d_law_0 (fun q1 H hP hD hS => ?_)
  refine W.widen (k := 1) (n := 4) (Nat.le_of_ble_eq_true rfl) (Nat.le_of_ble_eq_true rfl) ?_
  have hP : va_P D vwCl ([(q1, .inr (4, [.null, .null, .null, .null]))]) H := hP
  have hD : va_D A ([(q1, .inr (4, [.null, .null, .null, .null]))]) := hD
  refine lv_dup hx hb d_law_3 rfl ?_
  have hP : va_P D vwCl (([]) ++ [(q1, .inr (4, [.null, .null, .null, .null]))]) H := hP
  have hD : va_D A (([]) ++ [(q1, .inr (4, [.null, .null, .null, .null]))]) := hD
  have hPc := va_PR hP
  have hDc := va_DR hD
  have hKc := hK.sub (tys' := []) [] rfl
  have hFc := va_freeA hD hS hA
  refine va_callv (va_runI (As := []) (rest := [.ref q1]) ⟨hx, hb, hml, hown, hts⟩ (k_X4_init hG l D q1 H.size) (cwI 0 hts (bg_sub (fun w hw => by rcases List.mem_cons.mp hw with rfl | hw; exact kw_c4; exact hw)) rfl rfl rfl (hts _ kw_18) (hts _ kw_27) (hts _ kw_28) rfl (by decide +kernel) ⟨(Nat.le_of_ble_eq_true rfl), (Nat.le_of_ble_eq_true rfl)⟩) ⟨fun a U g mk q => ⟨q.1, ⟨q.2.1.1, q.2.1.2.1, va_K.moved (u := U) (U := U.calling g mk a) (Vm.Alike.refl U.vm) q.2.1.2.2.1, q.2.1.2.2.2⟩, E4.moved (u := U) (U := U.calling g mk a) (Vm.Alike.refl U.vm) q.2.2⟩, fun U hU hW => ⟨rfl, ⟨by rw [hU], by rw [hU]; exact hPc, va_K.moved hW.alike hKc, hDc.weaken (fun _ _ _ _ => trivial)⟩, E4.moved hW.alike ⟨hEO, hEA⟩⟩⟩ rfl rfl hl.1 rfl (lv_room (Nat.le_of_ble_eq_true rfl)) d_law_4 ⟨(Nat.le_of_ble_eq_true rfl), (Nat.le_of_ble_eq_true rfl)⟩) hS (fun q _ h => hFc q h) hFc (fun u t H1 locs ht hvm hw hB hz1 hk1 hS => ?_)
  obtain ⟨va, vf, vy⟩ := u
  obtain ⟨hP1, hK1, hD1⟩ := hB
  rw [ht] at hP1
  have hK1 := va_K.moved hvm.symm hK1
  obtain ⟨hP, hD⟩ := va_joinA hP hD hk1 hFc hP1 hD1
  generalize H1 = H at hP hS ⊢
  refine W.widen (k := 182) (n := 66130) (Nat.le_of_ble_eq_true rfl) (Nat.le_of_ble_eq_true rfl) ?_
  have hK := hK.app hK1
  have hK : va_K D vwCl [((vy 0), .int), ((vy 2), .object RX0), ((vy 1), .char), ((vy 3), .array .int)] s := hK
  have hK := hK.sub (tys' := [((vy 0), .int), ((vy 2), .object RX0), ((vy 1), .char), ((vy 3), .array .int)]) [0, 1, 2, 3] rfl
  have hP : va_P D vwCl (clockW q1 va vf vy) H := hP
  have hD : va_D A (clockW q1 va vf vy) := hD
  refine lv_astore_n (lv' := [(1, .ref q1), (0, .ref b)]) hx hb d_law_7 rfl hl (by decide) rfl (fun ls hl => ?_)
  have hl9 := lv_sub hl (l' := [(0, .ref b), (1, .ref q1)]) [1, 0] rfl
  subst eA
  obtain ⟨g0, eg0⟩ : ∃ g : Int → Int, ∀ j, g j = if j = -1 then (L : Int) else (xs j.toNat).toInt := ⟨_, fun _ => rfl⟩
  have hg : ∀ j, inR (g0 j) := fun j => by
    rw [eg0]
    split
    · omega
    · have h1 := Int32.toInt_lt (xs j.toNat)
      have h2 := Int32.le_toInt (xs j.toNat)
      omega
  have hP9 : va_P D vwCl (idsL.map (celE (adW q1 va vf b) vy (sto0 g0))) H := by
    rw [← ew_all]
    exact hP
  have hD9 : va_D (AL s) (idsL.map (celE (adW q1 va vf b) vy (sto0 g0))) := by
    rw [← ew_all]
    exact hD
  have hDD : ∀ σ, va_D (AL s) (cellsW (adW q1 va vf b) vy σ) := fun σ => world_D hD9 vy σ
  have hKt : va_K D vwCl (tysW vy) s := by
    have := hK.sub (tys' := tysW vy) [0, 2, 1, 3] rfl
    exact this
  have hSW : SWd (adW q1 va vf b) L xs vy D (AL s) s := ⟨hKt, hn1, hX, hbl, Nat.not_le.mpr hbl⟩
  have z1 : sto0 g0 41 0 (-1) = L := by
    show g0 (-1) = L
    rw [eg0, if_pos rfl]
  have z2 : ∀ j : Nat, j < L → Int32.ofInt (sto0 g0 41 0 j) = xs j := fun j hj => by
    show Int32.ofInt (g0 j) = xs j
    rw [eg0, if_neg (by omega), Int.toNat_natCast]
    exact Int32.ofInt_toInt _
  have closed : ∀ pc ls st σ, stp (WPd 8) LQ (wkP (PL p l e s m below meth c (adW q1 va vf b) vy D b (sto0 g0))) ls st σ (lk2 tb_law pc) → wkP (PL p l e s m below meth c (adW q1 va vf b) vy D b (sto0 g0)) pc ls st σ := fun pc ls st σ h t => law_step hx hb hr hml hown hts hlocks hSW hDD hL z1 z2 (stp_ext (WPd_mono 8) h t)
  obtain ⟨K0, hR, n0, a0⟩ := sto0_rel g0
  have key := law_run (d := 8) (by decide) (P := wkP (PL p l e s m below meth c (adW q1 va vf b) vy D b (sto0 g0))) (fun n pc ls st σ q t => by
    have x := q (ls.drop n ++ t)
    rwa [← List.append_assoc, List.take_append_drop] at x) closed hR (by rw [z1]; omega) n0 a0 []
  exact key H locs ls (world_P hP9) hS hl9 (fun v hv => by
    simp only [List.mem_append, List.mem_cons, List.not_mem_nil, or_false] at hv
    rcases hv with rfl | rfl
    · exact ⟨by decide, by decide⟩
    · exact ⟨by decide, by decide⟩) (fun v hv => by cases hv) ⟨sto0_in hg, fun _ _ _ => rfl⟩
