/-! THE CONSTRUCTORS of Script, History -/
theorem ref_cg {D : va_G} {cl : List vw_C} {a n : Nat} {cS : ClassId} {f g : Nat → Option Nat} {H : Heap} (h : va_at D cl (a, .inl (cS, n, .inr (.inr (.inr (.inr f))))) H) (e : ∀ j, j < n → f j = g j) : va_at D cl (a, .inl (cS, n, .inr (.inr (.inr (.inr g))))) H := by
  have h : H[a]? = some (vp_cell cS (n, .inr (.inr (.inr (.inr f))))) := h
  show H[a]? = some (vp_cell cS (n, .inr (.inr (.inr (.inr g)))))
  rw [h, vp_cell_q, vp_cell_q]
  have x : (fun j : Fin n => va_rf (f j.val)) = fun j : Fin n => va_rf (g j.val) := funext fun j => by rw [e j.val j.isLt]
  unfold arrV
  rw [x]
theorem va_Pset {D : va_G} {cl : List vw_C} {ws : va_W} {H : Heap} (h : va_P D cl ws H) (p : Nat) {x : Nat × va_E} (hx : va_at D cl x H) : va_P D cl (ws.set p x) H := by
  intro k q hk
  by_cases hkp : k = p
  · subst hkp
    have hl : k < (ws.set k x).length := (List.getElem?_eq_some_iff.mp hk).1
    rw [List.length_set] at hl
    rw [List.getElem?_set_self hl] at hk
    cases hk
    exact hx
  · rw [List.getElem?_set_ne (Ne.symm hkp)] at hk
    exact h k q hk
abbrev scriptW (h0 q1 q2 : Nat) (r : Nat → Nat) (cC cI : ClassId) : va_W := [(h0, .inr (3, [.ref q1, .ref q2, .int 0, .int 0])), (q1, .inl (cC, 90, .inl (fun _ => 0)))] ++ coreW q2 r cI
abbrev histW (h0 a : Nat) (q : Nat → Nat) (r : Nat → Nat → Nat) (cS cI : ClassId) : va_W := [(h0, .inr (1, [.ref a, .int 0, .int 0])), (a, .inl (cS, 6, .inr (.inr (.inr (.inr (fun j => some (q j)))))))] ++ coreW (q 0) (r 0) cI ++ coreW (q 1) (r 1) cI ++ coreW (q 2) (r 2) cI ++ coreW (q 3) (r 3) cI ++ coreW (q 4) (r 4) cI ++ coreW (q 5) (r 5) cI
set_option maxRecDepth 100000 in
theorem kw_19 : Jvm.Cond.initialized RX0 ∈ BG := bg_of 19 rfl rfl
set_option maxRecDepth 100000 in
theorem kw_34 : Jvm.Cond.instantiable RX0 9 ∈ BG := bg_of 34 rfl rfl
set_option maxRecDepth 100000 in
theorem kw_36 : Jvm.Cond.instanceMethod yX0_init ∈ BG := bg_of 36 rfl rfl
set_option maxRecDepth 100000 in
theorem kw_84 : Jvm.Cond.methodLink RX1 3 objectInit ∈ BG := bg_of 84 rfl rfl
set_option maxRecDepth 100000 in
theorem kw_85 : Jvm.Cond.classLink RX1 9 RX0 ∈ BG := bg_of 85 rfl rfl
set_option maxRecDepth 100000 in
theorem kw_87 : Jvm.Cond.methodLink RX1 17 yX0_init ∈ BG := bg_of 87 rfl rfl
set_option maxRecDepth 100000 in
theorem kw_88 : Jvm.Cond.fieldLink RX1 11 "VarveClock$History" "states" "[LVarveClock$Core;" ∈ BG := bg_of 88 rfl rfl
set_option maxRecDepth 100000 in
theorem kw_89 : Jvm.Cond.fieldLink RX1 18 "VarveClock$History" "next" "I" ∈ BG := bg_of 89 rfl rfl
set_option maxRecDepth 100000 in
theorem kw_90 : Jvm.Cond.fieldLink RX1 22 "VarveClock$History" "size" "I" ∈ BG := bg_of 90 rfl rfl
set_option maxRecDepth 100000 in
theorem kw_104 : Jvm.Cond.methodLink RX3 3 objectInit ∈ BG := bg_of 104 rfl rfl
set_option maxRecDepth 100000 in
theorem kw_105 : Jvm.Cond.classLink RX3 15 RX0 ∈ BG := bg_of 105 rfl rfl
set_option maxRecDepth 100000 in
theorem kw_106 : Jvm.Cond.methodLink RX3 17 yX0_init ∈ BG := bg_of 106 rfl rfl
set_option maxRecDepth 100000 in
theorem kw_107 : Jvm.Cond.fieldLink RX3 9 "VarveClock$Script" "signs" "[C" ∈ BG := bg_of 107 rfl rfl
set_option maxRecDepth 100000 in
theorem kw_108 : Jvm.Cond.fieldLink RX3 18 "VarveClock$Script" "draft" "LVarveClock$Core;" ∈ BG := bg_of 108 rfl rfl
set_option maxRecDepth 100000 in
theorem kw_109 : Jvm.Cond.fieldLink RX3 22 "VarveClock$Script" "length" "I" ∈ BG := bg_of 109 rfl rfl
set_option maxRecDepth 100000 in
theorem kw_110 : Jvm.Cond.fieldLink RX3 26 "VarveClock$Script" "at" "I" ∈ BG := bg_of 110 rfl rfl
set_option maxRecDepth 100000 in
theorem kw_c0 : Jvm.Cond.code yX0_init cX0_init 1 none ∈ BG := bg_of 37 rfl rfl
theorem d_X3_init_0 : decode cX3_init 0 = .ok (.aload_n 0, 1) := by decide +kernel
theorem d_X3_init_1 : decode cX3_init 1 = .ok (.invokespecial 3, 3) := by decide +kernel
theorem d_X3_init_4 : decode cX3_init 4 = .ok (.aload_n 0, 1) := by decide +kernel
theorem d_X3_init_5 : decode cX3_init 5 = .ok (.bipush 90, 2) := by decide +kernel
theorem d_X3_init_7 : decode cX3_init 7 = .ok (.newarray .char, 2) := by decide +kernel
theorem d_X3_init_9 : decode cX3_init 9 = .ok (.putfield 9, 3) := by decide +kernel
theorem d_X3_init_12 : decode cX3_init 12 = .ok (.aload_n 0, 1) := by decide +kernel
theorem d_X3_init_13 : decode cX3_init 13 = .ok (.new 15, 3) := by decide +kernel
theorem d_X3_init_16 : decode cX3_init 16 = .ok (.dup, 1) := by decide +kernel
theorem d_X3_init_17 : decode cX3_init 17 = .ok (.invokespecial 17, 3) := by decide +kernel
theorem d_X3_init_20 : decode cX3_init 20 = .ok (.putfield 18, 3) := by decide +kernel
theorem d_X3_init_23 : decode cX3_init 23 = .ok (.aload_n 0, 1) := by decide +kernel
theorem d_X3_init_24 : decode cX3_init 24 = .ok (.iconst 0, 1) := by decide +kernel
theorem d_X3_init_25 : decode cX3_init 25 = .ok (.putfield 22, 3) := by decide +kernel
theorem d_X3_init_28 : decode cX3_init 28 = .ok (.aload_n 0, 1) := by decide +kernel
theorem d_X3_init_29 : decode cX3_init 29 = .ok (.iconst 0, 1) := by decide +kernel
theorem d_X3_init_30 : decode cX3_init 30 = .ok (.putfield 26, 3) := by decide +kernel
theorem d_X3_init_33 : decode cX3_init 33 = .ok (.return_, 1) := by decide +kernel
set_option maxHeartbeats 8000000 in
set_option maxRecDepth 100000 in
theorem k_X3_init (l : Launch) (D : va_G) (h0 : Nat) (sz : Nat) : Met l yX3_init (.code yX3_init cX3_init 1 none :: BG) ({ frames := 2, cells := 9, slots := 271, locals := 40 }) (va_Pc [.ref h0] (fun U => PreK D sz [(h0, .inr (3, [.null, .null, .int 0, .int 0]))] U ∧ noE U)) (va_Qv (fun _ : Nat × Nat × (Nat → Nat) × ClassId × ClassId => True) (fun u t => PostK D (va_A [(h0, .inr (3, [.null, .null, .int 0, .int 0]))] sz) (scriptW h0 u.1 u.2.1 u.2.2.1 u.2.2.2.1 u.2.2.2.2) ([(u.2.2.2.1, .char), (u.2.2.2.2, .int)]) t) (va_A [(h0, .inr (3, [.null, .null, .int 0, .int 0]))] sz)) 9 271 (va_A [(h0, .inr (3, [.null, .null, .int 0, .int 0]))] sz) := by
  refine Met.ofW (cc := cX3_init) (maxL := 1) (ret := none) (by decide) rfl ?_
  intro p e s m args below meth c s₁ B hml hv
  obtain ⟨rfl, ⟨hsz, hP, hK, hD0⟩, hE⟩ := hv
  have hx := B.exec
  have hb := B.bytes
  have hr := B.returns
  have hts : ∀ w ∈ BG, w.before _ s = true := fun w hw => atoms_spec B.pre w (List.mem_cons_of_mem _ hw)
  have hown : s.vm.findClass RX3 = some m.cls := findClass_of_methodNamed B.named
  have hlocks := B.notSynchronized
  have hin : meth.name = "<init>" := (name_of_methodNamed B.named B.method).1
  subst hsz
  have hD := hD0.self (sz := s.heap.size)
  generalize hAe : va_A [(h0, .inr (3, [.null, .null, .int 0, .int 0]))] s.heap.size = A at hD ⊢
  have hA : ∀ q : Nat, s.heap.size ≤ q → A q := fun q h => by rw [← hAe]; exact Or.inr h
  have hS : va_S A s.heap s.heap [] := va_S.rf
  have hl := lv_entry ([.ref h0]) (n := 1) (Nat.le_of_ble_eq_true rfl)
  rw [lg_entry_eq]
  generalize (lg_sl ([.ref h0]) ++ List.replicate (1 - (lg_sl ([.ref h0])).length) Slot.unset).toArray = ls at hl ⊢
  have hl : lv_has ls 1 [(0, .ref h0)] := hl
  have hP : va_P D vwCl [(h0, .inr (3, [.null, .null, .int 0, .int 0]))] s.heap := hP
  refine lv_aload_n hx hb d_X3_init_0 rfl (lv_at hl 0 rfl) ?_
  refine W.objInit hx hb hown (hts _ kw_104) (hts _ kw_oii) (hts _ kw_oic) rfl (by rw [hml]; exact hl.1) rfl d_X3_init_1 (Nat.le_of_ble_eq_true rfl) (Nat.le_of_ble_eq_true rfl) ?_
  refine W.eq (g2 := F0 m 4 ls []) rfl ?_
  refine lv_aload_n hx hb d_X3_init_4 rfl (lv_at hl 0 rfl) ?_
  refine lv_bipush (v := 90) hx hb d_X3_init_5 (by decide) ?_
  refine va_newa (atype := .char) (ty := .char) (N' := 90) (a0 := (90, .inl (fun _ => 0))) hx hb (hts _ kw_arrC) rfl hK hP hD hS hA (fun cA => rfl) (by decide) (by decide) (Nat.le_of_ble_eq_true rfl) (Nat.le_of_ble_eq_true rfl) (Nat.le_of_ble_eq_true rfl) d_X3_init_7 (fun q1 cC H hK hP hD hS => ?_)
  refine W.widen (k := 1) (n := 90) (Nat.le_of_ble_eq_true rfl) (Nat.le_of_ble_eq_true rfl) ?_
  have hK : va_K D vwCl [(cC, .char)] s := hK
  have hP : va_P D vwCl ([(h0, .inr (3, [.null, .null, .int 0, .int 0])), (q1, .inl (cC, 90, .inl (fun _ => 0)))]) H := hP
  have hD : va_D A ([(h0, .inr (3, [.null, .null, .int 0, .int 0])), (q1, .inl (cC, 90, .inl (fun _ => 0)))]) := hD
  refine va_putF (D := D) (ci := 3) (v := .ref q1) (ty := .array .char) (C := RX3) (T := TX3) (N := 4) hx hb hts uw3 tyX3 tyX3_ok nmX3 hown hK hP hD hS 0 rfl rfl 0 (by decide) (hts _ kw_107) (fun _ h9 => h9) rfl hin rfl (by decide +kernel) rfl rfl (Nat.le_of_ble_eq_true rfl) d_X3_init_9 (fun H locs hP hD hS => ?_)
  have hP : va_P D vwCl ([(h0, .inr (3, [.ref q1, .null, .int 0, .int 0])), (q1, .inl (cC, 90, .inl (fun _ => 0)))]) H := hP
  have hD : va_D A ([(h0, .inr (3, [.ref q1, .null, .int 0, .int 0])), (q1, .inl (cC, 90, .inl (fun _ => 0)))]) := hD
  refine lv_aload_n hx hb d_X3_init_12 rfl (lv_at hl 0 rfl) ?_
  refine va_new (ci := 0) (fs := [.null, .null, .null, .null, .null, .null, .null, .int 0, .int 0]) (C := RX0) (T := TX0) (N := 9) hx hb hts uw0 tyX0 tyX0_ok hown (hts _ kw_105) (hts _ kw_34) (hts _ kw_19) hK hP hD hS hA rfl (fun j hj => by rcases (show j = 0 ∨ j = 1 ∨ j = 2 ∨ j = 3 ∨ j = 4 ∨ j = 5 ∨ j = 6 ∨ j = 7 ∨ j = 8 by omega) with rfl | rfl | rfl | rfl | rfl | rfl | rfl | rfl | rfl <;> rfl) (Nat.le_of_ble_eq_true rfl) (Nat.le_of_ble_eq_true rfl) d_X3_init_13 (fun q2 H hP hD hS => ?_)
  refine W.widen (k := 2) (n := 99) (Nat.le_of_ble_eq_true rfl) (Nat.le_of_ble_eq_true rfl) ?_
  have hP : va_P D vwCl ([(h0, .inr (3, [.ref q1, .null, .int 0, .int 0])), (q1, .inl (cC, 90, .inl (fun _ => 0))), (q2, .inr (0, [.null, .null, .null, .null, .null, .null, .null, .int 0, .int 0]))]) H := hP
  have hD : va_D A ([(h0, .inr (3, [.ref q1, .null, .int 0, .int 0])), (q1, .inl (cC, 90, .inl (fun _ => 0))), (q2, .inr (0, [.null, .null, .null, .null, .null, .null, .null, .int 0, .int 0]))]) := hD
  refine lv_dup hx hb d_X3_init_16 rfl ?_
  have hP : va_P D vwCl (([(h0, .inr (3, [.ref q1, .null, .int 0, .int 0])), (q1, .inl (cC, 90, .inl (fun _ => 0)))]) ++ [(q2, .inr (0, [.null, .null, .null, .null, .null, .null, .null, .int 0, .int 0]))]) H := hP
  have hD : va_D A (([(h0, .inr (3, [.ref q1, .null, .int 0, .int 0])), (q1, .inl (cC, 90, .inl (fun _ => 0)))]) ++ [(q2, .inr (0, [.null, .null, .null, .null, .null, .null, .null, .int 0, .int 0]))]) := hD
  have hPc := va_PR hP
  have hDc := va_DR hD
  have hKc := hK.sub (tys' := []) [] rfl
  have hFc := va_freeA hD hS hA
  refine va_callv (va_runI (As := []) (rest := [.ref q2, .ref h0]) ⟨hx, hb, hml, hown, hts⟩ (k_X0_init l D q2 H.size) (cwI 0 hts (bg_sub (fun w hw => by rcases List.mem_cons.mp hw with rfl | hw; exact kw_c0; exact hw)) rfl rfl rfl (hts _ kw_19) (hts _ kw_106) (hts _ kw_36) rfl (by decide +kernel) ⟨(Nat.le_of_ble_eq_true rfl), (Nat.le_of_ble_eq_true rfl)⟩) ⟨fun a U g mk q => ⟨q.1, ⟨q.2.1.1, q.2.1.2.1, va_K.moved (u := U) (U := U.calling g mk a) (Vm.Alike.refl U.vm) q.2.1.2.2.1, q.2.1.2.2.2⟩, noE.moved (u := U) (U := U.calling g mk a) (Vm.Alike.refl U.vm) q.2.2⟩, fun U hU hW => ⟨rfl, ⟨by rw [hU], by rw [hU]; exact hPc, va_K.moved hW.alike hKc, hDc.weaken (fun _ _ _ _ => trivial)⟩, noE.moved hW.alike trivial⟩⟩ rfl rfl hl.1 rfl (lv_room (Nat.le_of_ble_eq_true rfl)) d_X3_init_17 ⟨(Nat.le_of_ble_eq_true rfl), (Nat.le_of_ble_eq_true rfl)⟩) hS (fun q _ h => hFc q h) hFc (fun u t H1 locs ht hvm hw hB hz1 hk1 hS => ?_)
  obtain ⟨r3, cI3⟩ := u
  obtain ⟨hP1, hK1, hD1⟩ := hB
  rw [ht] at hP1
  have hK1 := va_K.moved hvm.symm hK1
  obtain ⟨hP, hD⟩ := va_joinA hP hD hk1 hFc hP1 hD1
  generalize H1 = H at hP hS ⊢
  refine W.widen (k := 9) (n := 271) (Nat.le_of_ble_eq_true rfl) (Nat.le_of_ble_eq_true rfl) ?_
  have hK := hK.app hK1
  have hK : va_K D vwCl [(cC, .char), (cI3, .int)] s := hK
  have hK := hK.sub (tys' := [(cC, .char), (cI3, .int)]) [0, 1] rfl
  have hP : va_P D vwCl ([(h0, .inr (3, [.ref q1, .null, .int 0, .int 0])), (q1, .inl (cC, 90, .inl (fun _ => 0)))] ++ coreW q2 r3 cI3) H := hP
  have hD : va_D A ([(h0, .inr (3, [.ref q1, .null, .int 0, .int 0])), (q1, .inl (cC, 90, .inl (fun _ => 0)))] ++ coreW q2 r3 cI3) := hD
  refine va_putF (D := D) (ci := 3) (v := .ref q2) (ty := .object "VarveClock$Core") (C := RX3) (T := TX3) (N := 4) hx hb hts uw3 tyX3 tyX3_ok nmX3 hown hK hP hD hS 0 rfl rfl 1 (by decide) (hts _ kw_108) (fun _ h9 => h9) rfl hin rfl (by decide +kernel) rfl rfl (Nat.le_of_ble_eq_true rfl) d_X3_init_20 (fun H locs hP hD hS => ?_)
  have hP : va_P D vwCl ([(h0, .inr (3, [.ref q1, .ref q2, .int 0, .int 0])), (q1, .inl (cC, 90, .inl (fun _ => 0)))] ++ coreW q2 r3 cI3) H := hP
  have hD : va_D A ([(h0, .inr (3, [.ref q1, .ref q2, .int 0, .int 0])), (q1, .inl (cC, 90, .inl (fun _ => 0)))] ++ coreW q2 r3 cI3) := hD
  refine lv_aload_n hx hb d_X3_init_23 rfl (lv_at hl 0 rfl) ?_
  refine lv_iconst (v := 0) hx hb d_X3_init_24 (by decide) ?_
  refine va_put (D := D) (ci := 3) (v := .int 0) (ty := .int) (C := RX3) (T := TX3) (N := 4) hx hb hts uw3 tyX3 tyX3_ok nmX3 hown hK hP hD hS 0 rfl rfl 2 (by decide) (hts _ kw_109) (fun _ h9 => h9) rfl (by decide +kernel) rfl rfl (Nat.le_of_ble_eq_true rfl) d_X3_init_25 (fun H locs hP hD hS => ?_)
  have hP : va_P D vwCl ([(h0, .inr (3, [.ref q1, .ref q2, .int 0, .int 0])), (q1, .inl (cC, 90, .inl (fun _ => 0)))] ++ coreW q2 r3 cI3) H := hP
  have hD : va_D A ([(h0, .inr (3, [.ref q1, .ref q2, .int 0, .int 0])), (q1, .inl (cC, 90, .inl (fun _ => 0)))] ++ coreW q2 r3 cI3) := hD
  refine lv_aload_n hx hb d_X3_init_28 rfl (lv_at hl 0 rfl) ?_
  refine lv_iconst (v := 0) hx hb d_X3_init_29 (by decide) ?_
  refine va_put (D := D) (ci := 3) (v := .int 0) (ty := .int) (C := RX3) (T := TX3) (N := 4) hx hb hts uw3 tyX3 tyX3_ok nmX3 hown hK hP hD hS 0 rfl rfl 3 (by decide) (hts _ kw_110) (fun _ h9 => h9) rfl (by decide +kernel) rfl rfl (Nat.le_of_ble_eq_true rfl) d_X3_init_30 (fun H locs hP hD hS => ?_)
  have hP : va_P D vwCl ([(h0, .inr (3, [.ref q1, .ref q2, .int 0, .int 0])), (q1, .inl (cC, 90, .inl (fun _ => 0)))] ++ coreW q2 r3 cI3) H := hP
  have hD : va_D A ([(h0, .inr (3, [.ref q1, .ref q2, .int 0, .int 0])), (q1, .inl (cC, 90, .inl (fun _ => 0)))] ++ coreW q2 r3 cI3) := hD
  obtain ⟨u9, eu9⟩ : ∃ u : Nat × Nat × (Nat → Nat) × ClassId × ClassId, u = (q1, q2, r3, cC, cI3) := ⟨_, rfl⟩
  have hP9 : va_P D vwCl (scriptW h0 u9.1 u9.2.1 u9.2.2.1 u9.2.2.2.1 u9.2.2.2.2) H := by rw [eu9]; exact hP
  have hD9 : va_D A (scriptW h0 u9.1 u9.2.1 u9.2.2.1 u9.2.2.2.1 u9.2.2.2.2) := by rw [eu9]; exact hD
  have hK9 : va_K D vwCl ([(u9.2.2.2.1, .char), (u9.2.2.2.2, .int)]) s := by rw [eu9]; exact hK
  exact W.vret hx hb hr (fun t ht hW => ⟨⟨u9, rfl, trivial, by rw [ht]; exact hP9, va_K.moved hW.alike hK9, hD9⟩, hS.F ht⟩) hS.2.2 d_X3_init_33
theorem d_X1_init_0 : decode cX1_init 0 = .ok (.aload_n 0, 1) := by decide +kernel
theorem d_X1_init_1 : decode cX1_init 1 = .ok (.invokespecial 3, 3) := by decide +kernel
theorem d_X1_init_4 : decode cX1_init 4 = .ok (.aload_n 0, 1) := by decide +kernel
theorem d_X1_init_5 : decode cX1_init 5 = .ok (.bipush 6, 2) := by decide +kernel
theorem d_X1_init_7 : decode cX1_init 7 = .ok (.anewarray 9, 3) := by decide +kernel
theorem d_X1_init_10 : decode cX1_init 10 = .ok (.putfield 11, 3) := by decide +kernel
theorem d_X1_init_13 : decode cX1_init 13 = .ok (.iconst 0, 1) := by decide +kernel
theorem d_X1_init_14 : decode cX1_init 14 = .ok (.istore_n 1, 1) := by decide +kernel
theorem d_X1_init_15 : decode cX1_init 15 = .ok (.iload_n 1, 1) := by decide +kernel
theorem d_X1_init_16 : decode cX1_init 16 = .ok (.bipush 6, 2) := by decide +kernel
theorem d_X1_init_18 : decode cX1_init 18 = .ok (.if_icmp .ge 22, 3) := by decide +kernel
theorem d_X1_init_21 : decode cX1_init 21 = .ok (.aload_n 0, 1) := by decide +kernel
theorem d_X1_init_22 : decode cX1_init 22 = .ok (.getfield 11, 3) := by decide +kernel
theorem d_X1_init_25 : decode cX1_init 25 = .ok (.iload_n 1, 1) := by decide +kernel
theorem d_X1_init_26 : decode cX1_init 26 = .ok (.new 9, 3) := by decide +kernel
theorem d_X1_init_29 : decode cX1_init 29 = .ok (.dup, 1) := by decide +kernel
theorem d_X1_init_30 : decode cX1_init 30 = .ok (.invokespecial 17, 3) := by decide +kernel
theorem d_X1_init_33 : decode cX1_init 33 = .ok (.aastore, 1) := by decide +kernel
theorem d_X1_init_34 : decode cX1_init 34 = .ok (.iinc 1 1, 3) := by decide +kernel
theorem d_X1_init_37 : decode cX1_init 37 = .ok (.goto (-22), 3) := by decide +kernel
theorem d_X1_init_40 : decode cX1_init 40 = .ok (.aload_n 0, 1) := by decide +kernel
theorem d_X1_init_41 : decode cX1_init 41 = .ok (.iconst 0, 1) := by decide +kernel
theorem d_X1_init_42 : decode cX1_init 42 = .ok (.putfield 18, 3) := by decide +kernel
theorem d_X1_init_45 : decode cX1_init 45 = .ok (.aload_n 0, 1) := by decide +kernel
theorem d_X1_init_46 : decode cX1_init 46 = .ok (.iconst 0, 1) := by decide +kernel
theorem d_X1_init_47 : decode cX1_init 47 = .ok (.putfield 22, 3) := by decide +kernel
theorem d_X1_init_50 : decode cX1_init 50 = .ok (.return_, 1) := by decide +kernel
set_option maxHeartbeats 8000000 in
set_option maxRecDepth 100000 in
theorem k_X1_init (l : Launch) (D : va_G) (h0 : Nat) (sz : Nat) : Met l yX1_init (.code yX1_init cX1_init 2 none :: BG) ({ frames := 2, cells := 49, slots := 1092, locals := 40 }) (va_Pc [.ref h0] (fun U => PreK D sz [(h0, .inr (1, [.null, .int 0, .int 0]))] U ∧ (va_AO RX0) U)) (va_Qv (fun _ : Nat × (Nat → Nat) × (Nat → Nat → Nat) × ClassId × ClassId => True) (fun u t => PostK D (va_A [(h0, .inr (1, [.null, .int 0, .int 0]))] sz) (histW h0 u.1 u.2.1 u.2.2.1 u.2.2.2.1 u.2.2.2.2) ([(u.2.2.2.1, .object RX0), (u.2.2.2.2, .int)]) t) (va_A [(h0, .inr (1, [.null, .int 0, .int 0]))] sz)) 49 1092 (va_A [(h0, .inr (1, [.null, .int 0, .int 0]))] sz) := by
  refine Met.ofW (cc := cX1_init) (maxL := 2) (ret := none) (by decide) rfl ?_
  intro p e s m args below meth c s₁ B hml hv
  obtain ⟨rfl, ⟨hsz, hP, hK, hD0⟩, hE⟩ := hv
  have hx := B.exec
  have hb := B.bytes
  have hr := B.returns
  have hts : ∀ w ∈ BG, w.before _ s = true := fun w hw => atoms_spec B.pre w (List.mem_cons_of_mem _ hw)
  have hown : s.vm.findClass RX1 = some m.cls := findClass_of_methodNamed B.named
  have hlocks := B.notSynchronized
  have hin : meth.name = "<init>" := (name_of_methodNamed B.named B.method).1
  subst hsz
  have hD := hD0.self (sz := s.heap.size)
  generalize hAe : va_A [(h0, .inr (1, [.null, .int 0, .int 0]))] s.heap.size = A at hD ⊢
  have hA : ∀ q : Nat, s.heap.size ≤ q → A q := fun q h => by rw [← hAe]; exact Or.inr h
  have hS : va_S A s.heap s.heap [] := va_S.rf
  have hl := lv_entry ([.ref h0]) (n := 2) (Nat.le_of_ble_eq_true rfl)
  rw [lg_entry_eq]
  generalize (lg_sl ([.ref h0]) ++ List.replicate (2 - (lg_sl ([.ref h0])).length) Slot.unset).toArray = ls at hl ⊢
  have hl : lv_has ls 2 [(0, .ref h0)] := hl
  have hP : va_P D vwCl [(h0, .inr (1, [.null, .int 0, .int 0]))] s.heap := hP
  refine lv_aload_n hx hb d_X1_init_0 rfl (lv_at hl 0 rfl) ?_
  refine W.objInit hx hb hown (hts _ kw_84) (hts _ kw_oii) (hts _ kw_oic) rfl (by rw [hml]; exact hl.1) rfl d_X1_init_1 (Nat.le_of_ble_eq_true rfl) (Nat.le_of_ble_eq_true rfl) ?_
  refine W.eq (g2 := F0 m 4 ls []) rfl ?_
  refine lv_aload_n hx hb d_X1_init_4 rfl (lv_at hl 0 rfl) ?_
  refine lv_bipush (v := 6) hx hb d_X1_init_5 (by decide) ?_
  refine va_newq (C := RX0) (N' := 6) hx hb hown (hts _ kw_85) hE hK hP hD hS hA (by decide) (by decide) (Nat.le_of_ble_eq_true rfl) (Nat.le_of_ble_eq_true rfl) (Nat.le_of_ble_eq_true rfl) d_X1_init_7 (fun q1 cS H hK hP hD hS => ?_)
  refine W.widen (k := 1) (n := 6) (Nat.le_of_ble_eq_true rfl) (Nat.le_of_ble_eq_true rfl) ?_
  have hK : va_K D vwCl [(cS, .object RX0)] s := hK
  have hP : va_P D vwCl ([(h0, .inr (1, [.null, .int 0, .int 0])), (q1, .inl (cS, 6, .inr (.inr (.inr (.inr (fun _ => none))))))]) H := hP
  have hD : va_D A ([(h0, .inr (1, [.null, .int 0, .int 0])), (q1, .inl (cS, 6, .inr (.inr (.inr (.inr (fun _ => none))))))]) := hD
  refine va_putF (D := D) (ci := 1) (v := .ref q1) (ty := .array (.object "VarveClock$Core")) (C := RX1) (T := TX1) (N := 3) hx hb hts uw1 tyX1 tyX1_ok nmX1 hown hK hP hD hS 0 rfl rfl 0 (by decide) (hts _ kw_88) (fun _ h9 => h9) rfl hin rfl (by decide +kernel) rfl rfl (Nat.le_of_ble_eq_true rfl) d_X1_init_10 (fun H locs hP hD hS => ?_)
  have hP : va_P D vwCl ([(h0, .inr (1, [.ref q1, .int 0, .int 0])), (q1, .inl (cS, 6, .inr (.inr (.inr (.inr (fun _ => none))))))]) H := hP
  have hD : va_D A ([(h0, .inr (1, [.ref q1, .int 0, .int 0])), (q1, .inl (cS, 6, .inr (.inr (.inr (.inr (fun _ => none))))))]) := hD
  refine lv_iconst (v := 0) hx hb d_X1_init_13 (by decide) ?_
  refine lv_istore_n (lv' := [(1, .int 0), (0, .ref h0)]) hx hb d_X1_init_14 rfl hl (by decide) rfl (fun ls hl => ?_)
  refine lv_iload_n hx hb d_X1_init_15 rfl (lv_at hl 0 rfl) ?_
  refine lv_bipush (v := 6) hx hb d_X1_init_16 (by decide) ?_
  refine lv_icmp_ge (tgt := 40) hx hb d_X1_init_18 (by decide) (fun c_ => absurd c_ (by decide)) (fun c_ => ?_)
  refine lv_aload_n hx hb d_X1_init_21 rfl (lv_at hl 1 rfl) ?_
  refine va_get (ci := 1) (v := .ref q1) (C := RX1) (T := TX1) (N := 3) hx hb hts uw1 hown hK hP 0 rfl rfl 0 (by decide) (hts _ kw_88) (fun _ h9 => h9) rfl d_X1_init_22 ?_
  refine lv_iload_n hx hb d_X1_init_25 rfl (lv_at hl 0 rfl) ?_
  refine va_new (ci := 0) (fs := [.null, .null, .null, .null, .null, .null, .null, .int 0, .int 0]) (C := RX0) (T := TX0) (N := 9) hx hb hts uw0 tyX0 tyX0_ok hown (hts _ kw_85) (hts _ kw_34) (hts _ kw_19) hK hP hD hS hA rfl (fun j hj => by rcases (show j = 0 ∨ j = 1 ∨ j = 2 ∨ j = 3 ∨ j = 4 ∨ j = 5 ∨ j = 6 ∨ j = 7 ∨ j = 8 by omega) with rfl | rfl | rfl | rfl | rfl | rfl | rfl | rfl | rfl <;> rfl) (Nat.le_of_ble_eq_true rfl) (Nat.le_of_ble_eq_true rfl) d_X1_init_26 (fun q2 H hP hD hS => ?_)
  refine W.widen (k := 2) (n := 15) (Nat.le_of_ble_eq_true rfl) (Nat.le_of_ble_eq_true rfl) ?_
  have hP : va_P D vwCl ([(h0, .inr (1, [.ref q1, .int 0, .int 0])), (q1, .inl (cS, 6, .inr (.inr (.inr (.inr (fun _ => none)))))), (q2, .inr (0, [.null, .null, .null, .null, .null, .null, .null, .int 0, .int 0]))]) H := hP
  have hD : va_D A ([(h0, .inr (1, [.ref q1, .int 0, .int 0])), (q1, .inl (cS, 6, .inr (.inr (.inr (.inr (fun _ => none)))))), (q2, .inr (0, [.null, .null, .null, .null, .null, .null, .null, .int 0, .int 0]))]) := hD
  refine lv_dup hx hb d_X1_init_29 rfl ?_
  have hP : va_P D vwCl (([(h0, .inr (1, [.ref q1, .int 0, .int 0])), (q1, .inl (cS, 6, .inr (.inr (.inr (.inr (fun _ => none))))))]) ++ [(q2, .inr (0, [.null, .null, .null, .null, .null, .null, .null, .int 0, .int 0]))]) H := hP
  have hD : va_D A (([(h0, .inr (1, [.ref q1, .int 0, .int 0])), (q1, .inl (cS, 6, .inr (.inr (.inr (.inr (fun _ => none))))))]) ++ [(q2, .inr (0, [.null, .null, .null, .null, .null, .null, .null, .int 0, .int 0]))]) := hD
  have hPc := va_PR hP
  have hDc := va_DR hD
  have hKc := hK.sub (tys' := []) [] rfl
  have hFc := va_freeA hD hS hA
  refine va_callv (va_runI (As := []) (rest := [.ref q2, .int 0, .ref q1]) ⟨hx, hb, hml, hown, hts⟩ (k_X0_init l D q2 H.size) (cwI 0 hts (bg_sub (fun w hw => by rcases List.mem_cons.mp hw with rfl | hw; exact kw_c0; exact hw)) rfl rfl rfl (hts _ kw_19) (hts _ kw_87) (hts _ kw_36) rfl (by decide +kernel) ⟨(Nat.le_of_ble_eq_true rfl), (Nat.le_of_ble_eq_true rfl)⟩) ⟨fun a U g mk q => ⟨q.1, ⟨q.2.1.1, q.2.1.2.1, va_K.moved (u := U) (U := U.calling g mk a) (Vm.Alike.refl U.vm) q.2.1.2.2.1, q.2.1.2.2.2⟩, noE.moved (u := U) (U := U.calling g mk a) (Vm.Alike.refl U.vm) q.2.2⟩, fun U hU hW => ⟨rfl, ⟨by rw [hU], by rw [hU]; exact hPc, va_K.moved hW.alike hKc, hDc.weaken (fun _ _ _ _ => trivial)⟩, noE.moved hW.alike trivial⟩⟩ rfl rfl hl.1 rfl (lv_room (Nat.le_of_ble_eq_true rfl)) d_X1_init_30 ⟨(Nat.le_of_ble_eq_true rfl), (Nat.le_of_ble_eq_true rfl)⟩) hS (fun q _ h => hFc q h) hFc (fun u t H1 locs ht hvm hw hB hz1 hk1 hS => ?_)
  obtain ⟨r3, cI3⟩ := u
  obtain ⟨hP1, hK1, hD1⟩ := hB
  rw [ht] at hP1
  have hK1 := va_K.moved hvm.symm hK1
  obtain ⟨hP, hD⟩ := va_joinA hP hD hk1 hFc hP1 hD1
  generalize H1 = H at hP hS ⊢
  refine W.widen (k := 9) (n := 187) (Nat.le_of_ble_eq_true rfl) (Nat.le_of_ble_eq_true rfl) ?_
  have hK := hK.app hK1
  have hK : va_K D vwCl [(cS, .object RX0), (cI3, .int)] s := hK
  have hK := hK.sub (tys' := [(cS, .object RX0), (cI3, .int)]) [0, 1] rfl
  have hP : va_P D vwCl ([(h0, .inr (1, [.ref q1, .int 0, .int 0])), (q1, .inl (cS, 6, .inr (.inr (.inr (.inr (fun _ => none))))))] ++ coreW q2 r3 cI3) H := hP
  have hD : va_D A ([(h0, .inr (1, [.ref q1, .int 0, .int 0])), (q1, .inl (cS, 6, .inr (.inr (.inr (.inr (fun _ => none))))))] ++ coreW q2 r3 cI3) := hD
  refine va_astq hx hb hK hP hD hS 1 0 2 0 rfl rfl rfl rfl (vpi (by decide)) d_X1_init_33 (fun H locs hP hD hS => ?_)
  have hP : va_P D vwCl ([(h0, .inr (1, [.ref q1, .int 0, .int 0])), (q1, .inl (cS, 6, .inr (.inr (.inr (.inr (va_up (fun _ => none) (0 : Int32).toNatClampNeg (some q2)))))))] ++ coreW q2 r3 cI3) H := hP
  have hD : va_D A ([(h0, .inr (1, [.ref q1, .int 0, .int 0])), (q1, .inl (cS, 6, .inr (.inr (.inr (.inr (va_up (fun _ => none) (0 : Int32).toNatClampNeg (some q2)))))))] ++ coreW q2 r3 cI3) := hD
  refine lv_iinc (v := 1) (lv' := [(1, .int 1), (0, .ref h0)]) hx hb d_X1_init_34 hl (k := 0) rfl (by decide) (by decide) rfl (fun ls hl => ?_)
  refine lv_goto (tgt := 15) hx hb d_X1_init_37 (by decide) ?_
  refine lv_iload_n hx hb d_X1_init_15 rfl (lv_at hl 0 rfl) ?_
  refine lv_bipush (v := 6) hx hb d_X1_init_16 (by decide) ?_
  refine lv_icmp_ge (tgt := 40) hx hb d_X1_init_18 (by decide) (fun c_ => absurd c_ (by decide)) (fun c_ => ?_)
  refine lv_aload_n hx hb d_X1_init_21 rfl (lv_at hl 1 rfl) ?_
  refine va_get (ci := 1) (v := .ref q1) (C := RX1) (T := TX1) (N := 3) hx hb hts uw1 hown hK hP 0 rfl rfl 0 (by decide) (hts _ kw_88) (fun _ h9 => h9) rfl d_X1_init_22 ?_
  refine lv_iload_n hx hb d_X1_init_25 rfl (lv_at hl 0 rfl) ?_
  refine va_new (ci := 0) (fs := [.null, .null, .null, .null, .null, .null, .null, .int 0, .int 0]) (C := RX0) (T := TX0) (N := 9) hx hb hts uw0 tyX0 tyX0_ok hown (hts _ kw_85) (hts _ kw_34) (hts _ kw_19) hK hP hD hS hA rfl (fun j hj => by rcases (show j = 0 ∨ j = 1 ∨ j = 2 ∨ j = 3 ∨ j = 4 ∨ j = 5 ∨ j = 6 ∨ j = 7 ∨ j = 8 by omega) with rfl | rfl | rfl | rfl | rfl | rfl | rfl | rfl | rfl <;> rfl) (Nat.le_of_ble_eq_true rfl) (Nat.le_of_ble_eq_true rfl) d_X1_init_26 (fun q4 H hP hD hS => ?_)
  refine W.widen (k := 10) (n := 196) (Nat.le_of_ble_eq_true rfl) (Nat.le_of_ble_eq_true rfl) ?_
  have hP : va_P D vwCl ([(h0, .inr (1, [.ref q1, .int 0, .int 0])), (q1, .inl (cS, 6, .inr (.inr (.inr (.inr (va_up (fun _ => none) (0 : Int32).toNatClampNeg (some q2)))))))] ++ coreW q2 r3 cI3 ++ [(q4, .inr (0, [.null, .null, .null, .null, .null, .null, .null, .int 0, .int 0]))]) H := hP
  have hD : va_D A ([(h0, .inr (1, [.ref q1, .int 0, .int 0])), (q1, .inl (cS, 6, .inr (.inr (.inr (.inr (va_up (fun _ => none) (0 : Int32).toNatClampNeg (some q2)))))))] ++ coreW q2 r3 cI3 ++ [(q4, .inr (0, [.null, .null, .null, .null, .null, .null, .null, .int 0, .int 0]))]) := hD
  refine lv_dup hx hb d_X1_init_29 rfl ?_
  have hP : va_P D vwCl (([(h0, .inr (1, [.ref q1, .int 0, .int 0])), (q1, .inl (cS, 6, .inr (.inr (.inr (.inr (va_up (fun _ => none) (0 : Int32).toNatClampNeg (some q2)))))))] ++ coreW q2 r3 cI3) ++ [(q4, .inr (0, [.null, .null, .null, .null, .null, .null, .null, .int 0, .int 0]))]) H := hP
  have hD : va_D A (([(h0, .inr (1, [.ref q1, .int 0, .int 0])), (q1, .inl (cS, 6, .inr (.inr (.inr (.inr (va_up (fun _ => none) (0 : Int32).toNatClampNeg (some q2)))))))] ++ coreW q2 r3 cI3) ++ [(q4, .inr (0, [.null, .null, .null, .null, .null, .null, .null, .int 0, .int 0]))]) := hD
  have hPc := va_PR hP
  have hDc := va_DR hD
  have hKc := hK.sub (tys' := []) [] rfl
  have hFc := va_freeA hD hS hA
  refine va_callv (va_runI (As := []) (rest := [.ref q4, .int 1, .ref q1]) ⟨hx, hb, hml, hown, hts⟩ (k_X0_init l D q4 H.size) (cwI 0 hts (bg_sub (fun w hw => by rcases List.mem_cons.mp hw with rfl | hw; exact kw_c0; exact hw)) rfl rfl rfl (hts _ kw_19) (hts _ kw_87) (hts _ kw_36) rfl (by decide +kernel) ⟨(Nat.le_of_ble_eq_true rfl), (Nat.le_of_ble_eq_true rfl)⟩) ⟨fun a U g mk q => ⟨q.1, ⟨q.2.1.1, q.2.1.2.1, va_K.moved (u := U) (U := U.calling g mk a) (Vm.Alike.refl U.vm) q.2.1.2.2.1, q.2.1.2.2.2⟩, noE.moved (u := U) (U := U.calling g mk a) (Vm.Alike.refl U.vm) q.2.2⟩, fun U hU hW => ⟨rfl, ⟨by rw [hU], by rw [hU]; exact hPc, va_K.moved hW.alike hKc, hDc.weaken (fun _ _ _ _ => trivial)⟩, noE.moved hW.alike trivial⟩⟩ rfl rfl hl.1 rfl (lv_room (Nat.le_of_ble_eq_true rfl)) d_X1_init_30 ⟨(Nat.le_of_ble_eq_true rfl), (Nat.le_of_ble_eq_true rfl)⟩) hS (fun q _ h => hFc q h) hFc (fun u t H1 locs ht hvm hw hB hz1 hk1 hS => ?_)
  obtain ⟨r5, cI5⟩ := u
  obtain ⟨hP1, hK1, hD1⟩ := hB
  rw [ht] at hP1
  have hK1 := va_K.moved hvm.symm hK1
  obtain ⟨hP, hD⟩ := va_joinA hP hD hk1 hFc hP1 hD1
  generalize H1 = H at hP hS ⊢
  refine W.widen (k := 17) (n := 368) (Nat.le_of_ble_eq_true rfl) (Nat.le_of_ble_eq_true rfl) ?_
  have hK := hK.app hK1
  have hK : va_K D vwCl [(cS, .object RX0), (cI3, .int), (cI5, .int)] s := hK
  have ey : cI3 = cI5 := tyU hK (t := .int) (by simp) (by simp)
  subst ey
  have hK := hK.sub (tys' := [(cS, .object RX0), (cI3, .int)]) [0, 1] rfl
  have hP : va_P D vwCl ([(h0, .inr (1, [.ref q1, .int 0, .int 0])), (q1, .inl (cS, 6, .inr (.inr (.inr (.inr (va_up (fun _ => none) (0 : Int32).toNatClampNeg (some q2)))))))] ++ coreW q2 r3 cI3 ++ coreW q4 r5 cI3) H := hP
  have hD : va_D A ([(h0, .inr (1, [.ref q1, .int 0, .int 0])), (q1, .inl (cS, 6, .inr (.inr (.inr (.inr (va_up (fun _ => none) (0 : Int32).toNatClampNeg (some q2)))))))] ++ coreW q2 r3 cI3 ++ coreW q4 r5 cI3) := hD
  refine va_astq hx hb hK hP hD hS 1 0 10 0 rfl rfl rfl rfl (vpi (by decide)) d_X1_init_33 (fun H locs hP hD hS => ?_)
  have hP : va_P D vwCl ([(h0, .inr (1, [.ref q1, .int 0, .int 0])), (q1, .inl (cS, 6, .inr (.inr (.inr (.inr (va_up (va_up (fun _ => none) (0 : Int32).toNatClampNeg (some q2)) (1 : Int32).toNatClampNeg (some q4)))))))] ++ coreW q2 r3 cI3 ++ coreW q4 r5 cI3) H := hP
  have hD : va_D A ([(h0, .inr (1, [.ref q1, .int 0, .int 0])), (q1, .inl (cS, 6, .inr (.inr (.inr (.inr (va_up (va_up (fun _ => none) (0 : Int32).toNatClampNeg (some q2)) (1 : Int32).toNatClampNeg (some q4)))))))] ++ coreW q2 r3 cI3 ++ coreW q4 r5 cI3) := hD
  refine lv_iinc (v := 2) (lv' := [(1, .int 2), (0, .ref h0)]) hx hb d_X1_init_34 hl (k := 0) rfl (by decide) (by decide) rfl (fun ls hl => ?_)
  refine lv_goto (tgt := 15) hx hb d_X1_init_37 (by decide) ?_
  refine lv_iload_n hx hb d_X1_init_15 rfl (lv_at hl 0 rfl) ?_
  refine lv_bipush (v := 6) hx hb d_X1_init_16 (by decide) ?_
  refine lv_icmp_ge (tgt := 40) hx hb d_X1_init_18 (by decide) (fun c_ => absurd c_ (by decide)) (fun c_ => ?_)
  refine lv_aload_n hx hb d_X1_init_21 rfl (lv_at hl 1 rfl) ?_
  refine va_get (ci := 1) (v := .ref q1) (C := RX1) (T := TX1) (N := 3) hx hb hts uw1 hown hK hP 0 rfl rfl 0 (by decide) (hts _ kw_88) (fun _ h9 => h9) rfl d_X1_init_22 ?_
  refine lv_iload_n hx hb d_X1_init_25 rfl (lv_at hl 0 rfl) ?_
  refine va_new (ci := 0) (fs := [.null, .null, .null, .null, .null, .null, .null, .int 0, .int 0]) (C := RX0) (T := TX0) (N := 9) hx hb hts uw0 tyX0 tyX0_ok hown (hts _ kw_85) (hts _ kw_34) (hts _ kw_19) hK hP hD hS hA rfl (fun j hj => by rcases (show j = 0 ∨ j = 1 ∨ j = 2 ∨ j = 3 ∨ j = 4 ∨ j = 5 ∨ j = 6 ∨ j = 7 ∨ j = 8 by omega) with rfl | rfl | rfl | rfl | rfl | rfl | rfl | rfl | rfl <;> rfl) (Nat.le_of_ble_eq_true rfl) (Nat.le_of_ble_eq_true rfl) d_X1_init_26 (fun q6 H hP hD hS => ?_)
  refine W.widen (k := 18) (n := 377) (Nat.le_of_ble_eq_true rfl) (Nat.le_of_ble_eq_true rfl) ?_
  have hP : va_P D vwCl ([(h0, .inr (1, [.ref q1, .int 0, .int 0])), (q1, .inl (cS, 6, .inr (.inr (.inr (.inr (va_up (va_up (fun _ => none) (0 : Int32).toNatClampNeg (some q2)) (1 : Int32).toNatClampNeg (some q4)))))))] ++ coreW q2 r3 cI3 ++ coreW q4 r5 cI3 ++ [(q6, .inr (0, [.null, .null, .null, .null, .null, .null, .null, .int 0, .int 0]))]) H := hP
  have hD : va_D A ([(h0, .inr (1, [.ref q1, .int 0, .int 0])), (q1, .inl (cS, 6, .inr (.inr (.inr (.inr (va_up (va_up (fun _ => none) (0 : Int32).toNatClampNeg (some q2)) (1 : Int32).toNatClampNeg (some q4)))))))] ++ coreW q2 r3 cI3 ++ coreW q4 r5 cI3 ++ [(q6, .inr (0, [.null, .null, .null, .null, .null, .null, .null, .int 0, .int 0]))]) := hD
  refine lv_dup hx hb d_X1_init_29 rfl ?_
  have hP : va_P D vwCl (([(h0, .inr (1, [.ref q1, .int 0, .int 0])), (q1, .inl (cS, 6, .inr (.inr (.inr (.inr (va_up (va_up (fun _ => none) (0 : Int32).toNatClampNeg (some q2)) (1 : Int32).toNatClampNeg (some q4)))))))] ++ coreW q2 r3 cI3 ++ coreW q4 r5 cI3) ++ [(q6, .inr (0, [.null, .null, .null, .null, .null, .null, .null, .int 0, .int 0]))]) H := hP
  have hD : va_D A (([(h0, .inr (1, [.ref q1, .int 0, .int 0])), (q1, .inl (cS, 6, .inr (.inr (.inr (.inr (va_up (va_up (fun _ => none) (0 : Int32).toNatClampNeg (some q2)) (1 : Int32).toNatClampNeg (some q4)))))))] ++ coreW q2 r3 cI3 ++ coreW q4 r5 cI3) ++ [(q6, .inr (0, [.null, .null, .null, .null, .null, .null, .null, .int 0, .int 0]))]) := hD
  have hPc := va_PR hP
  have hDc := va_DR hD
  have hKc := hK.sub (tys' := []) [] rfl
  have hFc := va_freeA hD hS hA
  refine va_callv (va_runI (As := []) (rest := [.ref q6, .int 2, .ref q1]) ⟨hx, hb, hml, hown, hts⟩ (k_X0_init l D q6 H.size) (cwI 0 hts (bg_sub (fun w hw => by rcases List.mem_cons.mp hw with rfl | hw; exact kw_c0; exact hw)) rfl rfl rfl (hts _ kw_19) (hts _ kw_87) (hts _ kw_36) rfl (by decide +kernel) ⟨(Nat.le_of_ble_eq_true rfl), (Nat.le_of_ble_eq_true rfl)⟩) ⟨fun a U g mk q => ⟨q.1, ⟨q.2.1.1, q.2.1.2.1, va_K.moved (u := U) (U := U.calling g mk a) (Vm.Alike.refl U.vm) q.2.1.2.2.1, q.2.1.2.2.2⟩, noE.moved (u := U) (U := U.calling g mk a) (Vm.Alike.refl U.vm) q.2.2⟩, fun U hU hW => ⟨rfl, ⟨by rw [hU], by rw [hU]; exact hPc, va_K.moved hW.alike hKc, hDc.weaken (fun _ _ _ _ => trivial)⟩, noE.moved hW.alike trivial⟩⟩ rfl rfl hl.1 rfl (lv_room (Nat.le_of_ble_eq_true rfl)) d_X1_init_30 ⟨(Nat.le_of_ble_eq_true rfl), (Nat.le_of_ble_eq_true rfl)⟩) hS (fun q _ h => hFc q h) hFc (fun u t H1 locs ht hvm hw hB hz1 hk1 hS => ?_)
  obtain ⟨r7, cI7⟩ := u
  obtain ⟨hP1, hK1, hD1⟩ := hB
  rw [ht] at hP1
  have hK1 := va_K.moved hvm.symm hK1
  obtain ⟨hP, hD⟩ := va_joinA hP hD hk1 hFc hP1 hD1
  generalize H1 = H at hP hS ⊢
  refine W.widen (k := 25) (n := 549) (Nat.le_of_ble_eq_true rfl) (Nat.le_of_ble_eq_true rfl) ?_
  have hK := hK.app hK1
  have hK : va_K D vwCl [(cS, .object RX0), (cI3, .int), (cI7, .int)] s := hK
  have ey : cI3 = cI7 := tyU hK (t := .int) (by simp) (by simp)
  subst ey
  have hK := hK.sub (tys' := [(cS, .object RX0), (cI3, .int)]) [0, 1] rfl
  have hP : va_P D vwCl ([(h0, .inr (1, [.ref q1, .int 0, .int 0])), (q1, .inl (cS, 6, .inr (.inr (.inr (.inr (va_up (va_up (fun _ => none) (0 : Int32).toNatClampNeg (some q2)) (1 : Int32).toNatClampNeg (some q4)))))))] ++ coreW q2 r3 cI3 ++ coreW q4 r5 cI3 ++ coreW q6 r7 cI3) H := hP
  have hD : va_D A ([(h0, .inr (1, [.ref q1, .int 0, .int 0])), (q1, .inl (cS, 6, .inr (.inr (.inr (.inr (va_up (va_up (fun _ => none) (0 : Int32).toNatClampNeg (some q2)) (1 : Int32).toNatClampNeg (some q4)))))))] ++ coreW q2 r3 cI3 ++ coreW q4 r5 cI3 ++ coreW q6 r7 cI3) := hD
  refine va_astq hx hb hK hP hD hS 1 0 18 0 rfl rfl rfl rfl (vpi (by decide)) d_X1_init_33 (fun H locs hP hD hS => ?_)
  have hP : va_P D vwCl ([(h0, .inr (1, [.ref q1, .int 0, .int 0])), (q1, .inl (cS, 6, .inr (.inr (.inr (.inr (va_up (va_up (va_up (fun _ => none) (0 : Int32).toNatClampNeg (some q2)) (1 : Int32).toNatClampNeg (some q4)) (2 : Int32).toNatClampNeg (some q6)))))))] ++ coreW q2 r3 cI3 ++ coreW q4 r5 cI3 ++ coreW q6 r7 cI3) H := hP
  have hD : va_D A ([(h0, .inr (1, [.ref q1, .int 0, .int 0])), (q1, .inl (cS, 6, .inr (.inr (.inr (.inr (va_up (va_up (va_up (fun _ => none) (0 : Int32).toNatClampNeg (some q2)) (1 : Int32).toNatClampNeg (some q4)) (2 : Int32).toNatClampNeg (some q6)))))))] ++ coreW q2 r3 cI3 ++ coreW q4 r5 cI3 ++ coreW q6 r7 cI3) := hD
  refine lv_iinc (v := 3) (lv' := [(1, .int 3), (0, .ref h0)]) hx hb d_X1_init_34 hl (k := 0) rfl (by decide) (by decide) rfl (fun ls hl => ?_)
  refine lv_goto (tgt := 15) hx hb d_X1_init_37 (by decide) ?_
  refine lv_iload_n hx hb d_X1_init_15 rfl (lv_at hl 0 rfl) ?_
  refine lv_bipush (v := 6) hx hb d_X1_init_16 (by decide) ?_
  refine lv_icmp_ge (tgt := 40) hx hb d_X1_init_18 (by decide) (fun c_ => absurd c_ (by decide)) (fun c_ => ?_)
  refine lv_aload_n hx hb d_X1_init_21 rfl (lv_at hl 1 rfl) ?_
  refine va_get (ci := 1) (v := .ref q1) (C := RX1) (T := TX1) (N := 3) hx hb hts uw1 hown hK hP 0 rfl rfl 0 (by decide) (hts _ kw_88) (fun _ h9 => h9) rfl d_X1_init_22 ?_
  refine lv_iload_n hx hb d_X1_init_25 rfl (lv_at hl 0 rfl) ?_
  refine va_new (ci := 0) (fs := [.null, .null, .null, .null, .null, .null, .null, .int 0, .int 0]) (C := RX0) (T := TX0) (N := 9) hx hb hts uw0 tyX0 tyX0_ok hown (hts _ kw_85) (hts _ kw_34) (hts _ kw_19) hK hP hD hS hA rfl (fun j hj => by rcases (show j = 0 ∨ j = 1 ∨ j = 2 ∨ j = 3 ∨ j = 4 ∨ j = 5 ∨ j = 6 ∨ j = 7 ∨ j = 8 by omega) with rfl | rfl | rfl | rfl | rfl | rfl | rfl | rfl | rfl <;> rfl) (Nat.le_of_ble_eq_true rfl) (Nat.le_of_ble_eq_true rfl) d_X1_init_26 (fun q8 H hP hD hS => ?_)
  refine W.widen (k := 26) (n := 558) (Nat.le_of_ble_eq_true rfl) (Nat.le_of_ble_eq_true rfl) ?_
  have hP : va_P D vwCl ([(h0, .inr (1, [.ref q1, .int 0, .int 0])), (q1, .inl (cS, 6, .inr (.inr (.inr (.inr (va_up (va_up (va_up (fun _ => none) (0 : Int32).toNatClampNeg (some q2)) (1 : Int32).toNatClampNeg (some q4)) (2 : Int32).toNatClampNeg (some q6)))))))] ++ coreW q2 r3 cI3 ++ coreW q4 r5 cI3 ++ coreW q6 r7 cI3 ++ [(q8, .inr (0, [.null, .null, .null, .null, .null, .null, .null, .int 0, .int 0]))]) H := hP
  have hD : va_D A ([(h0, .inr (1, [.ref q1, .int 0, .int 0])), (q1, .inl (cS, 6, .inr (.inr (.inr (.inr (va_up (va_up (va_up (fun _ => none) (0 : Int32).toNatClampNeg (some q2)) (1 : Int32).toNatClampNeg (some q4)) (2 : Int32).toNatClampNeg (some q6)))))))] ++ coreW q2 r3 cI3 ++ coreW q4 r5 cI3 ++ coreW q6 r7 cI3 ++ [(q8, .inr (0, [.null, .null, .null, .null, .null, .null, .null, .int 0, .int 0]))]) := hD
  refine lv_dup hx hb d_X1_init_29 rfl ?_
  have hP : va_P D vwCl (([(h0, .inr (1, [.ref q1, .int 0, .int 0])), (q1, .inl (cS, 6, .inr (.inr (.inr (.inr (va_up (va_up (va_up (fun _ => none) (0 : Int32).toNatClampNeg (some q2)) (1 : Int32).toNatClampNeg (some q4)) (2 : Int32).toNatClampNeg (some q6)))))))] ++ coreW q2 r3 cI3 ++ coreW q4 r5 cI3 ++ coreW q6 r7 cI3) ++ [(q8, .inr (0, [.null, .null, .null, .null, .null, .null, .null, .int 0, .int 0]))]) H := hP
  have hD : va_D A (([(h0, .inr (1, [.ref q1, .int 0, .int 0])), (q1, .inl (cS, 6, .inr (.inr (.inr (.inr (va_up (va_up (va_up (fun _ => none) (0 : Int32).toNatClampNeg (some q2)) (1 : Int32).toNatClampNeg (some q4)) (2 : Int32).toNatClampNeg (some q6)))))))] ++ coreW q2 r3 cI3 ++ coreW q4 r5 cI3 ++ coreW q6 r7 cI3) ++ [(q8, .inr (0, [.null, .null, .null, .null, .null, .null, .null, .int 0, .int 0]))]) := hD
  have hPc := va_PR hP
  have hDc := va_DR hD
  have hKc := hK.sub (tys' := []) [] rfl
  have hFc := va_freeA hD hS hA
  refine va_callv (va_runI (As := []) (rest := [.ref q8, .int 3, .ref q1]) ⟨hx, hb, hml, hown, hts⟩ (k_X0_init l D q8 H.size) (cwI 0 hts (bg_sub (fun w hw => by rcases List.mem_cons.mp hw with rfl | hw; exact kw_c0; exact hw)) rfl rfl rfl (hts _ kw_19) (hts _ kw_87) (hts _ kw_36) rfl (by decide +kernel) ⟨(Nat.le_of_ble_eq_true rfl), (Nat.le_of_ble_eq_true rfl)⟩) ⟨fun a U g mk q => ⟨q.1, ⟨q.2.1.1, q.2.1.2.1, va_K.moved (u := U) (U := U.calling g mk a) (Vm.Alike.refl U.vm) q.2.1.2.2.1, q.2.1.2.2.2⟩, noE.moved (u := U) (U := U.calling g mk a) (Vm.Alike.refl U.vm) q.2.2⟩, fun U hU hW => ⟨rfl, ⟨by rw [hU], by rw [hU]; exact hPc, va_K.moved hW.alike hKc, hDc.weaken (fun _ _ _ _ => trivial)⟩, noE.moved hW.alike trivial⟩⟩ rfl rfl hl.1 rfl (lv_room (Nat.le_of_ble_eq_true rfl)) d_X1_init_30 ⟨(Nat.le_of_ble_eq_true rfl), (Nat.le_of_ble_eq_true rfl)⟩) hS (fun q _ h => hFc q h) hFc (fun u t H1 locs ht hvm hw hB hz1 hk1 hS => ?_)
  obtain ⟨r9, cI9⟩ := u
  obtain ⟨hP1, hK1, hD1⟩ := hB
  rw [ht] at hP1
  have hK1 := va_K.moved hvm.symm hK1
  obtain ⟨hP, hD⟩ := va_joinA hP hD hk1 hFc hP1 hD1
  generalize H1 = H at hP hS ⊢
  refine W.widen (k := 33) (n := 730) (Nat.le_of_ble_eq_true rfl) (Nat.le_of_ble_eq_true rfl) ?_
  have hK := hK.app hK1
  have hK : va_K D vwCl [(cS, .object RX0), (cI3, .int), (cI9, .int)] s := hK
  have ey : cI3 = cI9 := tyU hK (t := .int) (by simp) (by simp)
  subst ey
  have hK := hK.sub (tys' := [(cS, .object RX0), (cI3, .int)]) [0, 1] rfl
  have hP : va_P D vwCl ([(h0, .inr (1, [.ref q1, .int 0, .int 0])), (q1, .inl (cS, 6, .inr (.inr (.inr (.inr (va_up (va_up (va_up (fun _ => none) (0 : Int32).toNatClampNeg (some q2)) (1 : Int32).toNatClampNeg (some q4)) (2 : Int32).toNatClampNeg (some q6)))))))] ++ coreW q2 r3 cI3 ++ coreW q4 r5 cI3 ++ coreW q6 r7 cI3 ++ coreW q8 r9 cI3) H := hP
  have hD : va_D A ([(h0, .inr (1, [.ref q1, .int 0, .int 0])), (q1, .inl (cS, 6, .inr (.inr (.inr (.inr (va_up (va_up (va_up (fun _ => none) (0 : Int32).toNatClampNeg (some q2)) (1 : Int32).toNatClampNeg (some q4)) (2 : Int32).toNatClampNeg (some q6)))))))] ++ coreW q2 r3 cI3 ++ coreW q4 r5 cI3 ++ coreW q6 r7 cI3 ++ coreW q8 r9 cI3) := hD
  refine va_astq hx hb hK hP hD hS 1 0 26 0 rfl rfl rfl rfl (vpi (by decide)) d_X1_init_33 (fun H locs hP hD hS => ?_)
  have hP : va_P D vwCl ([(h0, .inr (1, [.ref q1, .int 0, .int 0])), (q1, .inl (cS, 6, .inr (.inr (.inr (.inr (va_up (va_up (va_up (va_up (fun _ => none) (0 : Int32).toNatClampNeg (some q2)) (1 : Int32).toNatClampNeg (some q4)) (2 : Int32).toNatClampNeg (some q6)) (3 : Int32).toNatClampNeg (some q8)))))))] ++ coreW q2 r3 cI3 ++ coreW q4 r5 cI3 ++ coreW q6 r7 cI3 ++ coreW q8 r9 cI3) H := hP
  have hD : va_D A ([(h0, .inr (1, [.ref q1, .int 0, .int 0])), (q1, .inl (cS, 6, .inr (.inr (.inr (.inr (va_up (va_up (va_up (va_up (fun _ => none) (0 : Int32).toNatClampNeg (some q2)) (1 : Int32).toNatClampNeg (some q4)) (2 : Int32).toNatClampNeg (some q6)) (3 : Int32).toNatClampNeg (some q8)))))))] ++ coreW q2 r3 cI3 ++ coreW q4 r5 cI3 ++ coreW q6 r7 cI3 ++ coreW q8 r9 cI3) := hD
  refine lv_iinc (v := 4) (lv' := [(1, .int 4), (0, .ref h0)]) hx hb d_X1_init_34 hl (k := 0) rfl (by decide) (by decide) rfl (fun ls hl => ?_)
  refine lv_goto (tgt := 15) hx hb d_X1_init_37 (by decide) ?_
  refine lv_iload_n hx hb d_X1_init_15 rfl (lv_at hl 0 rfl) ?_
  refine lv_bipush (v := 6) hx hb d_X1_init_16 (by decide) ?_
  refine lv_icmp_ge (tgt := 40) hx hb d_X1_init_18 (by decide) (fun c_ => absurd c_ (by decide)) (fun c_ => ?_)
  refine lv_aload_n hx hb d_X1_init_21 rfl (lv_at hl 1 rfl) ?_
  refine va_get (ci := 1) (v := .ref q1) (C := RX1) (T := TX1) (N := 3) hx hb hts uw1 hown hK hP 0 rfl rfl 0 (by decide) (hts _ kw_88) (fun _ h9 => h9) rfl d_X1_init_22 ?_
  refine lv_iload_n hx hb d_X1_init_25 rfl (lv_at hl 0 rfl) ?_
  refine va_new (ci := 0) (fs := [.null, .null, .null, .null, .null, .null, .null, .int 0, .int 0]) (C := RX0) (T := TX0) (N := 9) hx hb hts uw0 tyX0 tyX0_ok hown (hts _ kw_85) (hts _ kw_34) (hts _ kw_19) hK hP hD hS hA rfl (fun j hj => by rcases (show j = 0 ∨ j = 1 ∨ j = 2 ∨ j = 3 ∨ j = 4 ∨ j = 5 ∨ j = 6 ∨ j = 7 ∨ j = 8 by omega) with rfl | rfl | rfl | rfl | rfl | rfl | rfl | rfl | rfl <;> rfl) (Nat.le_of_ble_eq_true rfl) (Nat.le_of_ble_eq_true rfl) d_X1_init_26 (fun q10 H hP hD hS => ?_)
  refine W.widen (k := 34) (n := 739) (Nat.le_of_ble_eq_true rfl) (Nat.le_of_ble_eq_true rfl) ?_
  have hP : va_P D vwCl ([(h0, .inr (1, [.ref q1, .int 0, .int 0])), (q1, .inl (cS, 6, .inr (.inr (.inr (.inr (va_up (va_up (va_up (va_up (fun _ => none) (0 : Int32).toNatClampNeg (some q2)) (1 : Int32).toNatClampNeg (some q4)) (2 : Int32).toNatClampNeg (some q6)) (3 : Int32).toNatClampNeg (some q8)))))))] ++ coreW q2 r3 cI3 ++ coreW q4 r5 cI3 ++ coreW q6 r7 cI3 ++ coreW q8 r9 cI3 ++ [(q10, .inr (0, [.null, .null, .null, .null, .null, .null, .null, .int 0, .int 0]))]) H := hP
  have hD : va_D A ([(h0, .inr (1, [.ref q1, .int 0, .int 0])), (q1, .inl (cS, 6, .inr (.inr (.inr (.inr (va_up (va_up (va_up (va_up (fun _ => none) (0 : Int32).toNatClampNeg (some q2)) (1 : Int32).toNatClampNeg (some q4)) (2 : Int32).toNatClampNeg (some q6)) (3 : Int32).toNatClampNeg (some q8)))))))] ++ coreW q2 r3 cI3 ++ coreW q4 r5 cI3 ++ coreW q6 r7 cI3 ++ coreW q8 r9 cI3 ++ [(q10, .inr (0, [.null, .null, .null, .null, .null, .null, .null, .int 0, .int 0]))]) := hD
  refine lv_dup hx hb d_X1_init_29 rfl ?_
  have hP : va_P D vwCl (([(h0, .inr (1, [.ref q1, .int 0, .int 0])), (q1, .inl (cS, 6, .inr (.inr (.inr (.inr (va_up (va_up (va_up (va_up (fun _ => none) (0 : Int32).toNatClampNeg (some q2)) (1 : Int32).toNatClampNeg (some q4)) (2 : Int32).toNatClampNeg (some q6)) (3 : Int32).toNatClampNeg (some q8)))))))] ++ coreW q2 r3 cI3 ++ coreW q4 r5 cI3 ++ coreW q6 r7 cI3 ++ coreW q8 r9 cI3) ++ [(q10, .inr (0, [.null, .null, .null, .null, .null, .null, .null, .int 0, .int 0]))]) H := hP
  have hD : va_D A (([(h0, .inr (1, [.ref q1, .int 0, .int 0])), (q1, .inl (cS, 6, .inr (.inr (.inr (.inr (va_up (va_up (va_up (va_up (fun _ => none) (0 : Int32).toNatClampNeg (some q2)) (1 : Int32).toNatClampNeg (some q4)) (2 : Int32).toNatClampNeg (some q6)) (3 : Int32).toNatClampNeg (some q8)))))))] ++ coreW q2 r3 cI3 ++ coreW q4 r5 cI3 ++ coreW q6 r7 cI3 ++ coreW q8 r9 cI3) ++ [(q10, .inr (0, [.null, .null, .null, .null, .null, .null, .null, .int 0, .int 0]))]) := hD
  have hPc := va_PR hP
  have hDc := va_DR hD
  have hKc := hK.sub (tys' := []) [] rfl
  have hFc := va_freeA hD hS hA
  refine va_callv (va_runI (As := []) (rest := [.ref q10, .int 4, .ref q1]) ⟨hx, hb, hml, hown, hts⟩ (k_X0_init l D q10 H.size) (cwI 0 hts (bg_sub (fun w hw => by rcases List.mem_cons.mp hw with rfl | hw; exact kw_c0; exact hw)) rfl rfl rfl (hts _ kw_19) (hts _ kw_87) (hts _ kw_36) rfl (by decide +kernel) ⟨(Nat.le_of_ble_eq_true rfl), (Nat.le_of_ble_eq_true rfl)⟩) ⟨fun a U g mk q => ⟨q.1, ⟨q.2.1.1, q.2.1.2.1, va_K.moved (u := U) (U := U.calling g mk a) (Vm.Alike.refl U.vm) q.2.1.2.2.1, q.2.1.2.2.2⟩, noE.moved (u := U) (U := U.calling g mk a) (Vm.Alike.refl U.vm) q.2.2⟩, fun U hU hW => ⟨rfl, ⟨by rw [hU], by rw [hU]; exact hPc, va_K.moved hW.alike hKc, hDc.weaken (fun _ _ _ _ => trivial)⟩, noE.moved hW.alike trivial⟩⟩ rfl rfl hl.1 rfl (lv_room (Nat.le_of_ble_eq_true rfl)) d_X1_init_30 ⟨(Nat.le_of_ble_eq_true rfl), (Nat.le_of_ble_eq_true rfl)⟩) hS (fun q _ h => hFc q h) hFc (fun u t H1 locs ht hvm hw hB hz1 hk1 hS => ?_)
  obtain ⟨r11, cI11⟩ := u
  obtain ⟨hP1, hK1, hD1⟩ := hB
  rw [ht] at hP1
  have hK1 := va_K.moved hvm.symm hK1
  obtain ⟨hP, hD⟩ := va_joinA hP hD hk1 hFc hP1 hD1
  generalize H1 = H at hP hS ⊢
  refine W.widen (k := 41) (n := 911) (Nat.le_of_ble_eq_true rfl) (Nat.le_of_ble_eq_true rfl) ?_
  have hK := hK.app hK1
  have hK : va_K D vwCl [(cS, .object RX0), (cI3, .int), (cI11, .int)] s := hK
  have ey : cI3 = cI11 := tyU hK (t := .int) (by simp) (by simp)
  subst ey
  have hK := hK.sub (tys' := [(cS, .object RX0), (cI3, .int)]) [0, 1] rfl
  have hP : va_P D vwCl ([(h0, .inr (1, [.ref q1, .int 0, .int 0])), (q1, .inl (cS, 6, .inr (.inr (.inr (.inr (va_up (va_up (va_up (va_up (fun _ => none) (0 : Int32).toNatClampNeg (some q2)) (1 : Int32).toNatClampNeg (some q4)) (2 : Int32).toNatClampNeg (some q6)) (3 : Int32).toNatClampNeg (some q8)))))))] ++ coreW q2 r3 cI3 ++ coreW q4 r5 cI3 ++ coreW q6 r7 cI3 ++ coreW q8 r9 cI3 ++ coreW q10 r11 cI3) H := hP
  have hD : va_D A ([(h0, .inr (1, [.ref q1, .int 0, .int 0])), (q1, .inl (cS, 6, .inr (.inr (.inr (.inr (va_up (va_up (va_up (va_up (fun _ => none) (0 : Int32).toNatClampNeg (some q2)) (1 : Int32).toNatClampNeg (some q4)) (2 : Int32).toNatClampNeg (some q6)) (3 : Int32).toNatClampNeg (some q8)))))))] ++ coreW q2 r3 cI3 ++ coreW q4 r5 cI3 ++ coreW q6 r7 cI3 ++ coreW q8 r9 cI3 ++ coreW q10 r11 cI3) := hD
  refine va_astq hx hb hK hP hD hS 1 0 34 0 rfl rfl rfl rfl (vpi (by decide)) d_X1_init_33 (fun H locs hP hD hS => ?_)
  have hP : va_P D vwCl ([(h0, .inr (1, [.ref q1, .int 0, .int 0])), (q1, .inl (cS, 6, .inr (.inr (.inr (.inr (va_up (va_up (va_up (va_up (va_up (fun _ => none) (0 : Int32).toNatClampNeg (some q2)) (1 : Int32).toNatClampNeg (some q4)) (2 : Int32).toNatClampNeg (some q6)) (3 : Int32).toNatClampNeg (some q8)) (4 : Int32).toNatClampNeg (some q10)))))))] ++ coreW q2 r3 cI3 ++ coreW q4 r5 cI3 ++ coreW q6 r7 cI3 ++ coreW q8 r9 cI3 ++ coreW q10 r11 cI3) H := hP
  have hD : va_D A ([(h0, .inr (1, [.ref q1, .int 0, .int 0])), (q1, .inl (cS, 6, .inr (.inr (.inr (.inr (va_up (va_up (va_up (va_up (va_up (fun _ => none) (0 : Int32).toNatClampNeg (some q2)) (1 : Int32).toNatClampNeg (some q4)) (2 : Int32).toNatClampNeg (some q6)) (3 : Int32).toNatClampNeg (some q8)) (4 : Int32).toNatClampNeg (some q10)))))))] ++ coreW q2 r3 cI3 ++ coreW q4 r5 cI3 ++ coreW q6 r7 cI3 ++ coreW q8 r9 cI3 ++ coreW q10 r11 cI3) := hD
  refine lv_iinc (v := 5) (lv' := [(1, .int 5), (0, .ref h0)]) hx hb d_X1_init_34 hl (k := 0) rfl (by decide) (by decide) rfl (fun ls hl => ?_)
  refine lv_goto (tgt := 15) hx hb d_X1_init_37 (by decide) ?_
  refine lv_iload_n hx hb d_X1_init_15 rfl (lv_at hl 0 rfl) ?_
  refine lv_bipush (v := 6) hx hb d_X1_init_16 (by decide) ?_
  refine lv_icmp_ge (tgt := 40) hx hb d_X1_init_18 (by decide) (fun c_ => absurd c_ (by decide)) (fun c_ => ?_)
  refine lv_aload_n hx hb d_X1_init_21 rfl (lv_at hl 1 rfl) ?_
  refine va_get (ci := 1) (v := .ref q1) (C := RX1) (T := TX1) (N := 3) hx hb hts uw1 hown hK hP 0 rfl rfl 0 (by decide) (hts _ kw_88) (fun _ h9 => h9) rfl d_X1_init_22 ?_
  refine lv_iload_n hx hb d_X1_init_25 rfl (lv_at hl 0 rfl) ?_
  refine va_new (ci := 0) (fs := [.null, .null, .null, .null, .null, .null, .null, .int 0, .int 0]) (C := RX0) (T := TX0) (N := 9) hx hb hts uw0 tyX0 tyX0_ok hown (hts _ kw_85) (hts _ kw_34) (hts _ kw_19) hK hP hD hS hA rfl (fun j hj => by rcases (show j = 0 ∨ j = 1 ∨ j = 2 ∨ j = 3 ∨ j = 4 ∨ j = 5 ∨ j = 6 ∨ j = 7 ∨ j = 8 by omega) with rfl | rfl | rfl | rfl | rfl | rfl | rfl | rfl | rfl <;> rfl) (Nat.le_of_ble_eq_true rfl) (Nat.le_of_ble_eq_true rfl) d_X1_init_26 (fun q12 H hP hD hS => ?_)
  refine W.widen (k := 42) (n := 920) (Nat.le_of_ble_eq_true rfl) (Nat.le_of_ble_eq_true rfl) ?_
  have hP : va_P D vwCl ([(h0, .inr (1, [.ref q1, .int 0, .int 0])), (q1, .inl (cS, 6, .inr (.inr (.inr (.inr (va_up (va_up (va_up (va_up (va_up (fun _ => none) (0 : Int32).toNatClampNeg (some q2)) (1 : Int32).toNatClampNeg (some q4)) (2 : Int32).toNatClampNeg (some q6)) (3 : Int32).toNatClampNeg (some q8)) (4 : Int32).toNatClampNeg (some q10)))))))] ++ coreW q2 r3 cI3 ++ coreW q4 r5 cI3 ++ coreW q6 r7 cI3 ++ coreW q8 r9 cI3 ++ coreW q10 r11 cI3 ++ [(q12, .inr (0, [.null, .null, .null, .null, .null, .null, .null, .int 0, .int 0]))]) H := hP
  have hD : va_D A ([(h0, .inr (1, [.ref q1, .int 0, .int 0])), (q1, .inl (cS, 6, .inr (.inr (.inr (.inr (va_up (va_up (va_up (va_up (va_up (fun _ => none) (0 : Int32).toNatClampNeg (some q2)) (1 : Int32).toNatClampNeg (some q4)) (2 : Int32).toNatClampNeg (some q6)) (3 : Int32).toNatClampNeg (some q8)) (4 : Int32).toNatClampNeg (some q10)))))))] ++ coreW q2 r3 cI3 ++ coreW q4 r5 cI3 ++ coreW q6 r7 cI3 ++ coreW q8 r9 cI3 ++ coreW q10 r11 cI3 ++ [(q12, .inr (0, [.null, .null, .null, .null, .null, .null, .null, .int 0, .int 0]))]) := hD
  refine lv_dup hx hb d_X1_init_29 rfl ?_
  have hP : va_P D vwCl (([(h0, .inr (1, [.ref q1, .int 0, .int 0])), (q1, .inl (cS, 6, .inr (.inr (.inr (.inr (va_up (va_up (va_up (va_up (va_up (fun _ => none) (0 : Int32).toNatClampNeg (some q2)) (1 : Int32).toNatClampNeg (some q4)) (2 : Int32).toNatClampNeg (some q6)) (3 : Int32).toNatClampNeg (some q8)) (4 : Int32).toNatClampNeg (some q10)))))))] ++ coreW q2 r3 cI3 ++ coreW q4 r5 cI3 ++ coreW q6 r7 cI3 ++ coreW q8 r9 cI3 ++ coreW q10 r11 cI3) ++ [(q12, .inr (0, [.null, .null, .null, .null, .null, .null, .null, .int 0, .int 0]))]) H := hP
  have hD : va_D A (([(h0, .inr (1, [.ref q1, .int 0, .int 0])), (q1, .inl (cS, 6, .inr (.inr (.inr (.inr (va_up (va_up (va_up (va_up (va_up (fun _ => none) (0 : Int32).toNatClampNeg (some q2)) (1 : Int32).toNatClampNeg (some q4)) (2 : Int32).toNatClampNeg (some q6)) (3 : Int32).toNatClampNeg (some q8)) (4 : Int32).toNatClampNeg (some q10)))))))] ++ coreW q2 r3 cI3 ++ coreW q4 r5 cI3 ++ coreW q6 r7 cI3 ++ coreW q8 r9 cI3 ++ coreW q10 r11 cI3) ++ [(q12, .inr (0, [.null, .null, .null, .null, .null, .null, .null, .int 0, .int 0]))]) := hD
  have hPc := va_PR hP
  have hDc := va_DR hD
  have hKc := hK.sub (tys' := []) [] rfl
  have hFc := va_freeA hD hS hA
  refine va_callv (va_runI (As := []) (rest := [.ref q12, .int 5, .ref q1]) ⟨hx, hb, hml, hown, hts⟩ (k_X0_init l D q12 H.size) (cwI 0 hts (bg_sub (fun w hw => by rcases List.mem_cons.mp hw with rfl | hw; exact kw_c0; exact hw)) rfl rfl rfl (hts _ kw_19) (hts _ kw_87) (hts _ kw_36) rfl (by decide +kernel) ⟨(Nat.le_of_ble_eq_true rfl), (Nat.le_of_ble_eq_true rfl)⟩) ⟨fun a U g mk q => ⟨q.1, ⟨q.2.1.1, q.2.1.2.1, va_K.moved (u := U) (U := U.calling g mk a) (Vm.Alike.refl U.vm) q.2.1.2.2.1, q.2.1.2.2.2⟩, noE.moved (u := U) (U := U.calling g mk a) (Vm.Alike.refl U.vm) q.2.2⟩, fun U hU hW => ⟨rfl, ⟨by rw [hU], by rw [hU]; exact hPc, va_K.moved hW.alike hKc, hDc.weaken (fun _ _ _ _ => trivial)⟩, noE.moved hW.alike trivial⟩⟩ rfl rfl hl.1 rfl (lv_room (Nat.le_of_ble_eq_true rfl)) d_X1_init_30 ⟨(Nat.le_of_ble_eq_true rfl), (Nat.le_of_ble_eq_true rfl)⟩) hS (fun q _ h => hFc q h) hFc (fun u t H1 locs ht hvm hw hB hz1 hk1 hS => ?_)
  obtain ⟨r13, cI13⟩ := u
  obtain ⟨hP1, hK1, hD1⟩ := hB
  rw [ht] at hP1
  have hK1 := va_K.moved hvm.symm hK1
  obtain ⟨hP, hD⟩ := va_joinA hP hD hk1 hFc hP1 hD1
  generalize H1 = H at hP hS ⊢
  refine W.widen (k := 49) (n := 1092) (Nat.le_of_ble_eq_true rfl) (Nat.le_of_ble_eq_true rfl) ?_
  have hK := hK.app hK1
  have hK : va_K D vwCl [(cS, .object RX0), (cI3, .int), (cI13, .int)] s := hK
  have ey : cI3 = cI13 := tyU hK (t := .int) (by simp) (by simp)
  subst ey
  have hK := hK.sub (tys' := [(cS, .object RX0), (cI3, .int)]) [0, 1] rfl
  have hP : va_P D vwCl ([(h0, .inr (1, [.ref q1, .int 0, .int 0])), (q1, .inl (cS, 6, .inr (.inr (.inr (.inr (va_up (va_up (va_up (va_up (va_up (fun _ => none) (0 : Int32).toNatClampNeg (some q2)) (1 : Int32).toNatClampNeg (some q4)) (2 : Int32).toNatClampNeg (some q6)) (3 : Int32).toNatClampNeg (some q8)) (4 : Int32).toNatClampNeg (some q10)))))))] ++ coreW q2 r3 cI3 ++ coreW q4 r5 cI3 ++ coreW q6 r7 cI3 ++ coreW q8 r9 cI3 ++ coreW q10 r11 cI3 ++ coreW q12 r13 cI3) H := hP
  have hD : va_D A ([(h0, .inr (1, [.ref q1, .int 0, .int 0])), (q1, .inl (cS, 6, .inr (.inr (.inr (.inr (va_up (va_up (va_up (va_up (va_up (fun _ => none) (0 : Int32).toNatClampNeg (some q2)) (1 : Int32).toNatClampNeg (some q4)) (2 : Int32).toNatClampNeg (some q6)) (3 : Int32).toNatClampNeg (some q8)) (4 : Int32).toNatClampNeg (some q10)))))))] ++ coreW q2 r3 cI3 ++ coreW q4 r5 cI3 ++ coreW q6 r7 cI3 ++ coreW q8 r9 cI3 ++ coreW q10 r11 cI3 ++ coreW q12 r13 cI3) := hD
  refine va_astq hx hb hK hP hD hS 1 0 42 0 rfl rfl rfl rfl (vpi (by decide)) d_X1_init_33 (fun H locs hP hD hS => ?_)
  have hP : va_P D vwCl ([(h0, .inr (1, [.ref q1, .int 0, .int 0])), (q1, .inl (cS, 6, .inr (.inr (.inr (.inr (va_up (va_up (va_up (va_up (va_up (va_up (fun _ => none) (0 : Int32).toNatClampNeg (some q2)) (1 : Int32).toNatClampNeg (some q4)) (2 : Int32).toNatClampNeg (some q6)) (3 : Int32).toNatClampNeg (some q8)) (4 : Int32).toNatClampNeg (some q10)) (5 : Int32).toNatClampNeg (some q12)))))))] ++ coreW q2 r3 cI3 ++ coreW q4 r5 cI3 ++ coreW q6 r7 cI3 ++ coreW q8 r9 cI3 ++ coreW q10 r11 cI3 ++ coreW q12 r13 cI3) H := hP
  have hD : va_D A ([(h0, .inr (1, [.ref q1, .int 0, .int 0])), (q1, .inl (cS, 6, .inr (.inr (.inr (.inr (va_up (va_up (va_up (va_up (va_up (va_up (fun _ => none) (0 : Int32).toNatClampNeg (some q2)) (1 : Int32).toNatClampNeg (some q4)) (2 : Int32).toNatClampNeg (some q6)) (3 : Int32).toNatClampNeg (some q8)) (4 : Int32).toNatClampNeg (some q10)) (5 : Int32).toNatClampNeg (some q12)))))))] ++ coreW q2 r3 cI3 ++ coreW q4 r5 cI3 ++ coreW q6 r7 cI3 ++ coreW q8 r9 cI3 ++ coreW q10 r11 cI3 ++ coreW q12 r13 cI3) := hD
  refine lv_iinc (v := 6) (lv' := [(1, .int 6), (0, .ref h0)]) hx hb d_X1_init_34 hl (k := 0) rfl (by decide) (by decide) rfl (fun ls hl => ?_)
  refine lv_goto (tgt := 15) hx hb d_X1_init_37 (by decide) ?_
  refine lv_iload_n hx hb d_X1_init_15 rfl (lv_at hl 0 rfl) ?_
  refine lv_bipush (v := 6) hx hb d_X1_init_16 (by decide) ?_
  refine lv_icmp_ge (tgt := 40) hx hb d_X1_init_18 (by decide) (fun c_ => ?_) (fun c_ => absurd (by decide) c_)
  refine lv_aload_n hx hb d_X1_init_40 rfl (lv_at hl 1 rfl) ?_
  refine lv_iconst (v := 0) hx hb d_X1_init_41 (by decide) ?_
  refine va_put (D := D) (ci := 1) (v := .int 0) (ty := .int) (C := RX1) (T := TX1) (N := 3) hx hb hts uw1 tyX1 tyX1_ok nmX1 hown hK hP hD hS 0 rfl rfl 1 (by decide) (hts _ kw_89) (fun _ h9 => h9) rfl (by decide +kernel) rfl rfl (Nat.le_of_ble_eq_true rfl) d_X1_init_42 (fun H locs hP hD hS => ?_)
  have hP : va_P D vwCl ([(h0, .inr (1, [.ref q1, .int 0, .int 0])), (q1, .inl (cS, 6, .inr (.inr (.inr (.inr (va_up (va_up (va_up (va_up (va_up (va_up (fun _ => none) (0 : Int32).toNatClampNeg (some q2)) (1 : Int32).toNatClampNeg (some q4)) (2 : Int32).toNatClampNeg (some q6)) (3 : Int32).toNatClampNeg (some q8)) (4 : Int32).toNatClampNeg (some q10)) (5 : Int32).toNatClampNeg (some q12)))))))] ++ coreW q2 r3 cI3 ++ coreW q4 r5 cI3 ++ coreW q6 r7 cI3 ++ coreW q8 r9 cI3 ++ coreW q10 r11 cI3 ++ coreW q12 r13 cI3) H := hP
  have hD : va_D A ([(h0, .inr (1, [.ref q1, .int 0, .int 0])), (q1, .inl (cS, 6, .inr (.inr (.inr (.inr (va_up (va_up (va_up (va_up (va_up (va_up (fun _ => none) (0 : Int32).toNatClampNeg (some q2)) (1 : Int32).toNatClampNeg (some q4)) (2 : Int32).toNatClampNeg (some q6)) (3 : Int32).toNatClampNeg (some q8)) (4 : Int32).toNatClampNeg (some q10)) (5 : Int32).toNatClampNeg (some q12)))))))] ++ coreW q2 r3 cI3 ++ coreW q4 r5 cI3 ++ coreW q6 r7 cI3 ++ coreW q8 r9 cI3 ++ coreW q10 r11 cI3 ++ coreW q12 r13 cI3) := hD
  refine lv_aload_n hx hb d_X1_init_45 rfl (lv_at hl 1 rfl) ?_
  refine lv_iconst (v := 0) hx hb d_X1_init_46 (by decide) ?_
  refine va_put (D := D) (ci := 1) (v := .int 0) (ty := .int) (C := RX1) (T := TX1) (N := 3) hx hb hts uw1 tyX1 tyX1_ok nmX1 hown hK hP hD hS 0 rfl rfl 2 (by decide) (hts _ kw_90) (fun _ h9 => h9) rfl (by decide +kernel) rfl rfl (Nat.le_of_ble_eq_true rfl) d_X1_init_47 (fun H locs hP hD hS => ?_)
  have hP : va_P D vwCl ([(h0, .inr (1, [.ref q1, .int 0, .int 0])), (q1, .inl (cS, 6, .inr (.inr (.inr (.inr (va_up (va_up (va_up (va_up (va_up (va_up (fun _ => none) (0 : Int32).toNatClampNeg (some q2)) (1 : Int32).toNatClampNeg (some q4)) (2 : Int32).toNatClampNeg (some q6)) (3 : Int32).toNatClampNeg (some q8)) (4 : Int32).toNatClampNeg (some q10)) (5 : Int32).toNatClampNeg (some q12)))))))] ++ coreW q2 r3 cI3 ++ coreW q4 r5 cI3 ++ coreW q6 r7 cI3 ++ coreW q8 r9 cI3 ++ coreW q10 r11 cI3 ++ coreW q12 r13 cI3) H := hP
  have hD : va_D A ([(h0, .inr (1, [.ref q1, .int 0, .int 0])), (q1, .inl (cS, 6, .inr (.inr (.inr (.inr (va_up (va_up (va_up (va_up (va_up (va_up (fun _ => none) (0 : Int32).toNatClampNeg (some q2)) (1 : Int32).toNatClampNeg (some q4)) (2 : Int32).toNatClampNeg (some q6)) (3 : Int32).toNatClampNeg (some q8)) (4 : Int32).toNatClampNeg (some q10)) (5 : Int32).toNatClampNeg (some q12)))))))] ++ coreW q2 r3 cI3 ++ coreW q4 r5 cI3 ++ coreW q6 r7 cI3 ++ coreW q8 r9 cI3 ++ coreW q10 r11 cI3 ++ coreW q12 r13 cI3) := hD
  have e0 : (0 : Int32).toNatClampNeg = 0 := by decide
  have e1 : (1 : Int32).toNatClampNeg = 1 := by decide
  have e2 : (2 : Int32).toNatClampNeg = 2 := by decide
  have e3 : (3 : Int32).toNatClampNeg = 3 := by decide
  have e4 : (4 : Int32).toNatClampNeg = 4 := by decide
  have e5 : (5 : Int32).toNatClampNeg = 5 := by decide
  rw [e0, e1, e2, e3, e4, e5] at hP hD
  have hat := ref_cg (g := fun j => some ((fun i : Nat => [q2, q4, q6, q8, q10, q12].getD i 0) j)) (hP 1 _ rfl) (fun j hj => by rcases (show j = 0 ∨ j = 1 ∨ j = 2 ∨ j = 3 ∨ j = 4 ∨ j = 5 by omega) with rfl | rfl | rfl | rfl | rfl | rfl <;> rfl)
  have hP := va_Pset hP 1 hat
  have hD := hD.set (p := 1) (e := .inl (cS, 6, .inr (.inr (.inr (.inr (fun j => some ((fun i : Nat => [q2, q4, q6, q8, q10, q12].getD i 0) j))))))) rfl
  obtain ⟨u9, eu9⟩ : ∃ u : Nat × (Nat → Nat) × (Nat → Nat → Nat) × ClassId × ClassId, u = (q1, (fun i : Nat => [q2, q4, q6, q8, q10, q12].getD i 0), (fun i : Nat => [r3, r5, r7, r9, r11, r13].getD i r3), cS, cI3) := ⟨_, rfl⟩
  have hP9 : va_P D vwCl (histW h0 u9.1 u9.2.1 u9.2.2.1 u9.2.2.2.1 u9.2.2.2.2) H := by rw [eu9]; exact hP
  have hD9 : va_D A (histW h0 u9.1 u9.2.1 u9.2.2.1 u9.2.2.2.1 u9.2.2.2.2) := by rw [eu9]; exact hD
  have hK9 : va_K D vwCl ([(u9.2.2.2.1, .object RX0), (u9.2.2.2.2, .int)]) s := by rw [eu9]; exact hK
  exact W.vret hx hb hr (fun t ht hW => ⟨⟨u9, rfl, trivial, by rw [ht]; exact hP9, va_K.moved hW.alike hK9, hD9⟩, hS.F ht⟩) hS.2.2 d_X1_init_50
