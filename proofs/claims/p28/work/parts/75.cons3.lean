abbrev reckW (h0 cr a1 a2 : Nat) (r1 r2 f : Nat → Nat) (cG cI : ClassId) : va_W := [(h0, .inr (2, [.ref cr, .ref a1, .ref a2, .ref (f 0), .ref (f 1), .ref (f 2), .ref (f 3), .ref (f 4), .ref (f 5), .ref (f 6), .ref (f 7), .int 0, .int 0, .int 0, .int (-1)])), (a1, .inl (cG, 51, .inr (.inr (.inr (.inr (fun i => some (r1 i)))))))] ++ rowsW r1 cI ++ [(a2, .inl (cG, 51, .inr (.inr (.inr (.inr (fun i => some (r2 i)))))))] ++ rowsW r2 cI ++ [(f 0, .inl (cI, 601, .inl (fun _ => 0))), (f 1, .inl (cI, 601, .inl (fun _ => 0))), (f 2, .inl (cI, 601, .inl (fun _ => 0))), (f 3, .inl (cI, 601, .inl (fun _ => 0))), (f 4, .inl (cI, 601, .inl (fun _ => 0))), (f 5, .inl (cI, 50, .inl (fun _ => 0))), (f 6, .inl (cI, 50, .inl (fun _ => 0))), (f 7, .inl (cI, 51, .inl (fun _ => 0)))]
abbrev clockW (h0 : Nat) (a : Nat → Nat) (f : Nat → Nat → Nat) (y : Nat → ClassId) : va_W := [(h0, .inr (4, [.ref (a 0), .ref (a 1), .ref (a 2), .ref (a 3)]))] ++ coreW (a 0) (f 0) (y 0) ++ histW (a 1) (a 4) (f 1) (fun i => f (2 + i)) (y 2) (y 0) ++ scriptW (a 2) (a 5) (a 6) (f 8) (y 1) (y 0) ++ reckW (a 3) (a 0) (a 7) (a 8) (f 9) (f 10) (f 11) (y 3) (y 0)
def E4 (U : State) : Prop := va_AO RX0 U ∧ va_AOA .int U
theorem E4.moved {u U : State} (hvm : u.vm.Alike U.vm) (h : E4 u) : E4 U := ⟨va_AO.moved hvm h.1, va_AOA.moved hvm h.2⟩
set_option maxRecDepth 100000 in
theorem kw_20 : Jvm.Cond.initialized RX1 ∈ BG := bg_of 20 rfl rfl
set_option maxRecDepth 100000 in
theorem kw_21 : Jvm.Cond.initialized RX3 ∈ BG := bg_of 21 rfl rfl
set_option maxRecDepth 100000 in
theorem kw_22 : Jvm.Cond.initialized RX2 ∈ BG := bg_of 22 rfl rfl
set_option maxRecDepth 100000 in
theorem kw_30 : Jvm.Cond.methodLink RX4 1 objectInit ∈ BG := bg_of 30 rfl rfl
set_option maxRecDepth 100000 in
theorem kw_33 : Jvm.Cond.classLink RX4 7 RX0 ∈ BG := bg_of 33 rfl rfl
set_option maxRecDepth 100000 in
theorem kw_35 : Jvm.Cond.methodLink RX4 9 yX0_init ∈ BG := bg_of 35 rfl rfl
set_option maxRecDepth 100000 in
theorem kw_79 : Jvm.Cond.classLink RX4 16 RX1 ∈ BG := bg_of 79 rfl rfl
set_option maxRecDepth 100000 in
theorem kw_80 : Jvm.Cond.instantiable RX1 3 ∈ BG := bg_of 80 rfl rfl
set_option maxRecDepth 100000 in
theorem kw_81 : Jvm.Cond.methodLink RX4 18 yX1_init ∈ BG := bg_of 81 rfl rfl
set_option maxRecDepth 100000 in
theorem kw_82 : Jvm.Cond.instanceMethod yX1_init ∈ BG := bg_of 82 rfl rfl
set_option maxRecDepth 100000 in
theorem kw_99 : Jvm.Cond.classLink RX4 23 RX3 ∈ BG := bg_of 99 rfl rfl
set_option maxRecDepth 100000 in
theorem kw_100 : Jvm.Cond.instantiable RX3 4 ∈ BG := bg_of 100 rfl rfl
set_option maxRecDepth 100000 in
theorem kw_101 : Jvm.Cond.methodLink RX4 25 yX3_init ∈ BG := bg_of 101 rfl rfl
set_option maxRecDepth 100000 in
theorem kw_102 : Jvm.Cond.instanceMethod yX3_init ∈ BG := bg_of 102 rfl rfl
set_option maxRecDepth 100000 in
theorem kw_121 : Jvm.Cond.classLink RX4 30 RX2 ∈ BG := bg_of 121 rfl rfl
set_option maxRecDepth 100000 in
theorem kw_122 : Jvm.Cond.instantiable RX2 15 ∈ BG := bg_of 122 rfl rfl
set_option maxRecDepth 100000 in
theorem kw_123 : Jvm.Cond.methodLink RX4 32 yX2_init ∈ BG := bg_of 123 rfl rfl
set_option maxRecDepth 100000 in
theorem kw_124 : Jvm.Cond.instanceMethod yX2_init ∈ BG := bg_of 124 rfl rfl
set_option maxRecDepth 100000 in
theorem kw_126 : Jvm.Cond.methodLink RX2 3 objectInit ∈ BG := bg_of 126 rfl rfl
set_option maxRecDepth 100000 in
theorem kw_127 : Jvm.Cond.classLink RX2 15 "[[I" ∈ BG := bg_of 127 rfl rfl
set_option maxRecDepth 100000 in
theorem kw_129 : Jvm.Cond.fieldLink RX2 9 "VarveClock$Reckoning" "core" "LVarveClock$Core;" ∈ BG := bg_of 129 rfl rfl
set_option maxRecDepth 100000 in
theorem kw_130 : Jvm.Cond.fieldLink RX2 17 "VarveClock$Reckoning" "above" "[[I" ∈ BG := bg_of 130 rfl rfl
set_option maxRecDepth 100000 in
theorem kw_131 : Jvm.Cond.fieldLink RX2 20 "VarveClock$Reckoning" "below" "[[I" ∈ BG := bg_of 131 rfl rfl
set_option maxRecDepth 100000 in
theorem kw_132 : Jvm.Cond.fieldLink RX2 23 "VarveClock$Reckoning" "withAsh" "[I" ∈ BG := bg_of 132 rfl rfl
set_option maxRecDepth 100000 in
theorem kw_133 : Jvm.Cond.fieldLink RX2 27 "VarveClock$Reckoning" "withOwn" "[I" ∈ BG := bg_of 133 rfl rfl
set_option maxRecDepth 100000 in
theorem kw_134 : Jvm.Cond.fieldLink RX2 30 "VarveClock$Reckoning" "queue" "[I" ∈ BG := bg_of 134 rfl rfl
set_option maxRecDepth 100000 in
theorem kw_135 : Jvm.Cond.fieldLink RX2 33 "VarveClock$Reckoning" "waysHere" "[I" ∈ BG := bg_of 135 rfl rfl
set_option maxRecDepth 100000 in
theorem kw_136 : Jvm.Cond.fieldLink RX2 36 "VarveClock$Reckoning" "waysNext" "[I" ∈ BG := bg_of 136 rfl rfl
set_option maxRecDepth 100000 in
theorem kw_137 : Jvm.Cond.fieldLink RX2 39 "VarveClock$Reckoning" "bestOwn" "[I" ∈ BG := bg_of 137 rfl rfl
set_option maxRecDepth 100000 in
theorem kw_139 : Jvm.Cond.fieldLink RX2 42 "VarveClock$Reckoning" "bestMissing" "[I" ∈ BG := bg_of 139 rfl rfl
set_option maxRecDepth 100000 in
theorem kw_141 : Jvm.Cond.fieldLink RX2 45 "VarveClock$Reckoning" "bestAge" "[I" ∈ BG := bg_of 141 rfl rfl
set_option maxRecDepth 100000 in
theorem kw_143 : Jvm.Cond.fieldLink RX2 48 "VarveClock$Reckoning" "oldest" "I" ∈ BG := bg_of 143 rfl rfl
set_option maxRecDepth 100000 in
theorem kw_144 : Jvm.Cond.fieldLink RX2 52 "VarveClock$Reckoning" "belowStands" "Z" ∈ BG := bg_of 144 rfl rfl
set_option maxRecDepth 100000 in
theorem kw_145 : Jvm.Cond.fieldLink RX2 56 "VarveClock$Reckoning" "aboveStands" "Z" ∈ BG := bg_of 145 rfl rfl
set_option maxRecDepth 100000 in
theorem kw_146 : Jvm.Cond.fieldLink RX2 59 "VarveClock$Reckoning" "knownWays" "I" ∈ BG := bg_of 146 rfl rfl
set_option maxRecDepth 100000 in
theorem kw_178 : Jvm.Cond.fieldLink RX4 10 "VarveClock" "core" "LVarveClock$Core;" ∈ BG := bg_of 178 rfl rfl
set_option maxRecDepth 100000 in
theorem kw_179 : Jvm.Cond.fieldLink RX4 19 "VarveClock" "history" "LVarveClock$History;" ∈ BG := bg_of 179 rfl rfl
set_option maxRecDepth 100000 in
theorem kw_180 : Jvm.Cond.fieldLink RX4 26 "VarveClock" "script" "LVarveClock$Script;" ∈ BG := bg_of 180 rfl rfl
set_option maxRecDepth 100000 in
theorem kw_181 : Jvm.Cond.fieldLink RX4 35 "VarveClock" "reckoning" "LVarveClock$Reckoning;" ∈ BG := bg_of 181 rfl rfl
set_option maxRecDepth 100000 in
theorem kw_c1 : Jvm.Cond.code yX1_init cX1_init 2 none ∈ BG := bg_of 83 rfl rfl
set_option maxRecDepth 100000 in
theorem kw_c2 : Jvm.Cond.code yX2_init cX2_init 2 none ∈ BG := bg_of 125 rfl rfl
set_option maxRecDepth 100000 in
theorem kw_c3 : Jvm.Cond.code yX3_init cX3_init 1 none ∈ BG := bg_of 103 rfl rfl
theorem d_X2_init_0 : decode cX2_init 0 = .ok (.aload_n 0, 1) := by decide +kernel
theorem d_X2_init_1 : decode cX2_init 1 = .ok (.invokespecial 3, 3) := by decide +kernel
theorem d_X2_init_4 : decode cX2_init 4 = .ok (.aload_n 0, 1) := by decide +kernel
theorem d_X2_init_5 : decode cX2_init 5 = .ok (.aload_n 1, 1) := by decide +kernel
theorem d_X2_init_6 : decode cX2_init 6 = .ok (.putfield 9, 3) := by decide +kernel
theorem d_X2_init_9 : decode cX2_init 9 = .ok (.aload_n 0, 1) := by decide +kernel
theorem d_X2_init_10 : decode cX2_init 10 = .ok (.bipush 51, 2) := by decide +kernel
theorem d_X2_init_12 : decode cX2_init 12 = .ok (.sipush 601, 3) := by decide +kernel
theorem d_X2_init_15 : decode cX2_init 15 = .ok (.multianewarray 15 2, 4) := by decide +kernel
theorem d_X2_init_19 : decode cX2_init 19 = .ok (.putfield 17, 3) := by decide +kernel
theorem d_X2_init_22 : decode cX2_init 22 = .ok (.aload_n 0, 1) := by decide +kernel
theorem d_X2_init_23 : decode cX2_init 23 = .ok (.bipush 51, 2) := by decide +kernel
theorem d_X2_init_25 : decode cX2_init 25 = .ok (.sipush 601, 3) := by decide +kernel
theorem d_X2_init_28 : decode cX2_init 28 = .ok (.multianewarray 15 2, 4) := by decide +kernel
theorem d_X2_init_32 : decode cX2_init 32 = .ok (.putfield 20, 3) := by decide +kernel
theorem d_X2_init_35 : decode cX2_init 35 = .ok (.aload_n 0, 1) := by decide +kernel
theorem d_X2_init_36 : decode cX2_init 36 = .ok (.sipush 601, 3) := by decide +kernel
theorem d_X2_init_39 : decode cX2_init 39 = .ok (.newarray .int, 2) := by decide +kernel
theorem d_X2_init_41 : decode cX2_init 41 = .ok (.putfield 23, 3) := by decide +kernel
theorem d_X2_init_44 : decode cX2_init 44 = .ok (.aload_n 0, 1) := by decide +kernel
theorem d_X2_init_45 : decode cX2_init 45 = .ok (.sipush 601, 3) := by decide +kernel
theorem d_X2_init_48 : decode cX2_init 48 = .ok (.newarray .int, 2) := by decide +kernel
theorem d_X2_init_50 : decode cX2_init 50 = .ok (.putfield 27, 3) := by decide +kernel
theorem d_X2_init_53 : decode cX2_init 53 = .ok (.aload_n 0, 1) := by decide +kernel
theorem d_X2_init_54 : decode cX2_init 54 = .ok (.sipush 601, 3) := by decide +kernel
theorem d_X2_init_57 : decode cX2_init 57 = .ok (.newarray .int, 2) := by decide +kernel
theorem d_X2_init_59 : decode cX2_init 59 = .ok (.putfield 30, 3) := by decide +kernel
theorem d_X2_init_62 : decode cX2_init 62 = .ok (.aload_n 0, 1) := by decide +kernel
theorem d_X2_init_63 : decode cX2_init 63 = .ok (.sipush 601, 3) := by decide +kernel
theorem d_X2_init_66 : decode cX2_init 66 = .ok (.newarray .int, 2) := by decide +kernel
theorem d_X2_init_68 : decode cX2_init 68 = .ok (.putfield 33, 3) := by decide +kernel
theorem d_X2_init_71 : decode cX2_init 71 = .ok (.aload_n 0, 1) := by decide +kernel
theorem d_X2_init_72 : decode cX2_init 72 = .ok (.sipush 601, 3) := by decide +kernel
theorem d_X2_init_75 : decode cX2_init 75 = .ok (.newarray .int, 2) := by decide +kernel
theorem d_X2_init_77 : decode cX2_init 77 = .ok (.putfield 36, 3) := by decide +kernel
theorem d_X2_init_80 : decode cX2_init 80 = .ok (.aload_n 0, 1) := by decide +kernel
theorem d_X2_init_81 : decode cX2_init 81 = .ok (.bipush 50, 2) := by decide +kernel
theorem d_X2_init_83 : decode cX2_init 83 = .ok (.newarray .int, 2) := by decide +kernel
theorem d_X2_init_85 : decode cX2_init 85 = .ok (.putfield 39, 3) := by decide +kernel
theorem d_X2_init_88 : decode cX2_init 88 = .ok (.aload_n 0, 1) := by decide +kernel
theorem d_X2_init_89 : decode cX2_init 89 = .ok (.bipush 50, 2) := by decide +kernel
theorem d_X2_init_91 : decode cX2_init 91 = .ok (.newarray .int, 2) := by decide +kernel
theorem d_X2_init_93 : decode cX2_init 93 = .ok (.putfield 42, 3) := by decide +kernel
theorem d_X2_init_96 : decode cX2_init 96 = .ok (.aload_n 0, 1) := by decide +kernel
theorem d_X2_init_97 : decode cX2_init 97 = .ok (.bipush 51, 2) := by decide +kernel
theorem d_X2_init_99 : decode cX2_init 99 = .ok (.newarray .int, 2) := by decide +kernel
theorem d_X2_init_101 : decode cX2_init 101 = .ok (.putfield 45, 3) := by decide +kernel
theorem d_X2_init_104 : decode cX2_init 104 = .ok (.aload_n 0, 1) := by decide +kernel
theorem d_X2_init_105 : decode cX2_init 105 = .ok (.iconst 0, 1) := by decide +kernel
theorem d_X2_init_106 : decode cX2_init 106 = .ok (.putfield 48, 3) := by decide +kernel
theorem d_X2_init_109 : decode cX2_init 109 = .ok (.aload_n 0, 1) := by decide +kernel
theorem d_X2_init_110 : decode cX2_init 110 = .ok (.iconst 0, 1) := by decide +kernel
theorem d_X2_init_111 : decode cX2_init 111 = .ok (.putfield 52, 3) := by decide +kernel
theorem d_X2_init_114 : decode cX2_init 114 = .ok (.aload_n 0, 1) := by decide +kernel
theorem d_X2_init_115 : decode cX2_init 115 = .ok (.iconst 0, 1) := by decide +kernel
theorem d_X2_init_116 : decode cX2_init 116 = .ok (.putfield 56, 3) := by decide +kernel
theorem d_X2_init_119 : decode cX2_init 119 = .ok (.aload_n 0, 1) := by decide +kernel
theorem d_X2_init_120 : decode cX2_init 120 = .ok (.iconst (-1), 1) := by decide +kernel
theorem d_X2_init_121 : decode cX2_init 121 = .ok (.putfield 59, 3) := by decide +kernel
theorem d_X2_init_124 : decode cX2_init 124 = .ok (.return_, 1) := by decide +kernel
set_option maxHeartbeats 8000000 in
set_option maxRecDepth 100000 in
theorem k_X2_init (hG : Mna) (l : Launch) (D : va_G) (h0 : Nat) (sz : Nat) (cr : Nat) : Met l yX2_init (.code yX2_init cX2_init 2 none :: BG) ({ frames := 2, cells := 112, slots := 64560, locals := 40 }) (va_Pc [.ref h0, .ref cr] (fun U => PreK D sz [(h0, .inr (2, [.null, .null, .null, .null, .null, .null, .null, .null, .null, .null, .null, .int 0, .int 0, .int 0, .int 0]))] U ∧ (va_AOA .int) U)) (va_Qv (fun _ : (Nat → Nat) × (Nat → Nat → Nat) × (Nat → ClassId) => True) (fun u t => PostK D (va_A [(h0, .inr (2, [.null, .null, .null, .null, .null, .null, .null, .null, .null, .null, .null, .int 0, .int 0, .int 0, .int 0]))] sz) (reckW h0 cr (u.1 0) (u.1 1) (u.2.1 0) (u.2.1 1) (u.2.1 2) (u.2.2 0) (u.2.2 1)) ([(u.2.2 0, .array .int), (u.2.2 1, .int)]) t) (va_A [(h0, .inr (2, [.null, .null, .null, .null, .null, .null, .null, .null, .null, .null, .null, .int 0, .int 0, .int 0, .int 0]))] sz)) 112 64560 (va_A [(h0, .inr (2, [.null, .null, .null, .null, .null, .null, .null, .null, .null, .null, .null, .int 0, .int 0, .int 0, .int 0]))] sz) := by
  refine Met.ofW (cc := cX2_init) (maxL := 2) (ret := none) (by decide) rfl ?_
  intro p e s m args below meth c s₁ B hml hv
  obtain ⟨rfl, ⟨hsz, hP, hK, hD0⟩, hE⟩ := hv
  have hx := B.exec
  have hb := B.bytes
  have hr := B.returns
  have hts : ∀ w ∈ BG, w.before _ s = true := fun w hw => atoms_spec B.pre w (List.mem_cons_of_mem _ hw)
  have hown : s.vm.findClass RX2 = some m.cls := findClass_of_methodNamed B.named
  have hlocks := B.notSynchronized
  have hin : meth.name = "<init>" := (name_of_methodNamed B.named B.method).1
  subst hsz
  have hD := hD0.self (sz := s.heap.size)
  generalize hAe : va_A [(h0, .inr (2, [.null, .null, .null, .null, .null, .null, .null, .null, .null, .null, .null, .int 0, .int 0, .int 0, .int 0]))] s.heap.size = A at hD ⊢
  have hA : ∀ q : Nat, s.heap.size ≤ q → A q := fun q h => by rw [← hAe]; exact Or.inr h
  have hS : va_S A s.heap s.heap [] := va_S.rf
  have hl := lv_entry ([.ref h0, .ref cr]) (n := 2) (Nat.le_of_ble_eq_true rfl)
  rw [lg_entry_eq]
  generalize (lg_sl ([.ref h0, .ref cr]) ++ List.replicate (2 - (lg_sl ([.ref h0, .ref cr])).length) Slot.unset).toArray = ls at hl ⊢
  have hl : lv_has ls 2 [(0, .ref h0), (1, .ref cr)] := hl
  have hP : va_P D vwCl [(h0, .inr (2, [.null, .null, .null, .null, .null, .null, .null, .null, .null, .null, .null, .int 0, .int 0, .int 0, .int 0]))] s.heap := hP
  refine lv_aload_n hx hb d_X2_init_0 rfl (lv_at hl 0 rfl) ?_
  refine W.objInit hx hb hown (hts _ kw_126) (hts _ kw_oii) (hts _ kw_oic) rfl (by rw [hml]; exact hl.1) rfl d_X2_init_1 (Nat.le_of_ble_eq_true rfl) (Nat.le_of_ble_eq_true rfl) ?_
  refine W.eq (g2 := F0 m 4 ls []) rfl ?_
  refine lv_aload_n hx hb d_X2_init_4 rfl (lv_at hl 0 rfl) ?_
  refine lv_aload_n hx hb d_X2_init_5 rfl (lv_at hl 1 rfl) ?_
  refine va_putF (D := D) (ci := 2) (v := .ref cr) (ty := .object "VarveClock$Core") (C := RX2) (T := TX2) (N := 15) hx hb hts uw2 tyX2 tyX2_ok nmX2 hown hK hP hD hS 0 rfl rfl 0 (by decide) (hts _ kw_129) (fun _ h9 => h9) rfl hin rfl (by decide +kernel) rfl rfl (Nat.le_of_ble_eq_true rfl) d_X2_init_6 (fun H locs hP hD hS => ?_)
  have hP : va_P D vwCl ([(h0, .inr (2, [.ref cr, .null, .null, .null, .null, .null, .null, .null, .null, .null, .null, .int 0, .int 0, .int 0, .int 0]))]) H := hP
  have hD : va_D A ([(h0, .inr (2, [.ref cr, .null, .null, .null, .null, .null, .null, .null, .null, .null, .null, .int 0, .int 0, .int 0, .int 0]))]) := hD
  refine lv_aload_n hx hb d_X2_init_9 rfl (lv_at hl 0 rfl) ?_
  refine lv_bipush (v := 51) hx hb d_X2_init_10 (by decide) ?_
  refine lv_sipush (v := 601) hx hb d_X2_init_12 (by decide) ?_
  obtain ⟨cI, hcI⟩ := rcI (hts _ kw_arrI)
  refine hG hx hb hown (hts _ kw_127) hE (hts _ kw_arrI) hcI hK hP hD hS hA (Nat.le_of_ble_eq_true rfl) (Nat.le_of_ble_eq_true rfl) d_X2_init_15 (fun q1 r1 cG H hK hP hD hS => ?_)
  refine W.widen (k := 52) (n := 30702) (Nat.le_of_ble_eq_true rfl) (Nat.le_of_ble_eq_true rfl) ?_
  have hK : va_K D vwCl [(cG, .array .int)] s := hK
  have hP : va_P D vwCl ([(h0, .inr (2, [.ref cr, .null, .null, .null, .null, .null, .null, .null, .null, .null, .null, .int 0, .int 0, .int 0, .int 0])), (q1, .inl (cG, 51, .inr (.inr (.inr (.inr (fun i => some (r1 i)))))))] ++ rowsW r1 cI) H := hP
  have hD : va_D A ([(h0, .inr (2, [.ref cr, .null, .null, .null, .null, .null, .null, .null, .null, .null, .null, .int 0, .int 0, .int 0, .int 0])), (q1, .inl (cG, 51, .inr (.inr (.inr (.inr (fun i => some (r1 i)))))))] ++ rowsW r1 cI) := hD
  refine va_putF (D := D) (ci := 2) (v := .ref q1) (ty := .array (.array .int)) (C := RX2) (T := TX2) (N := 15) hx hb hts uw2 tyX2 tyX2_ok nmX2 hown hK hP hD hS 0 rfl rfl 1 (by decide) (hts _ kw_130) (fun _ h9 => h9) rfl hin rfl (by decide +kernel) rfl rfl (Nat.le_of_ble_eq_true rfl) d_X2_init_19 (fun H locs hP hD hS => ?_)
  have hP : va_P D vwCl ([(h0, .inr (2, [.ref cr, .ref q1, .null, .null, .null, .null, .null, .null, .null, .null, .null, .int 0, .int 0, .int 0, .int 0])), (q1, .inl (cG, 51, .inr (.inr (.inr (.inr (fun i => some (r1 i)))))))] ++ rowsW r1 cI) H := hP
  have hD : va_D A ([(h0, .inr (2, [.ref cr, .ref q1, .null, .null, .null, .null, .null, .null, .null, .null, .null, .int 0, .int 0, .int 0, .int 0])), (q1, .inl (cG, 51, .inr (.inr (.inr (.inr (fun i => some (r1 i)))))))] ++ rowsW r1 cI) := hD
  refine lv_aload_n hx hb d_X2_init_22 rfl (lv_at hl 0 rfl) ?_
  refine lv_bipush (v := 51) hx hb d_X2_init_23 (by decide) ?_
  refine lv_sipush (v := 601) hx hb d_X2_init_25 (by decide) ?_
  refine hG hx hb hown (hts _ kw_127) hE (hts _ kw_arrI) hcI hK hP hD hS hA (Nat.le_of_ble_eq_true rfl) (Nat.le_of_ble_eq_true rfl) d_X2_init_28 (fun q2 r2 cH H hK hP hD hS => ?_)
  refine W.widen (k := 104) (n := 61404) (Nat.le_of_ble_eq_true rfl) (Nat.le_of_ble_eq_true rfl) ?_
  have hK : va_K D vwCl [(cG, .array .int), (cH, .array .int)] s := hK
  have ey : cG = cH := tyU hK (t := .array .int) (by simp) (by simp)
  subst ey
  have hK := hK.sub (tys' := [(cG, .array .int)]) [0] rfl
  have hP : va_P D vwCl ([(h0, .inr (2, [.ref cr, .ref q1, .null, .null, .null, .null, .null, .null, .null, .null, .null, .int 0, .int 0, .int 0, .int 0])), (q1, .inl (cG, 51, .inr (.inr (.inr (.inr (fun i => some (r1 i)))))))] ++ rowsW r1 cI ++ [(q2, .inl (cG, 51, .inr (.inr (.inr (.inr (fun i => some (r2 i)))))))] ++ rowsW r2 cI) H := hP
  have hD : va_D A ([(h0, .inr (2, [.ref cr, .ref q1, .null, .null, .null, .null, .null, .null, .null, .null, .null, .int 0, .int 0, .int 0, .int 0])), (q1, .inl (cG, 51, .inr (.inr (.inr (.inr (fun i => some (r1 i)))))))] ++ rowsW r1 cI ++ [(q2, .inl (cG, 51, .inr (.inr (.inr (.inr (fun i => some (r2 i)))))))] ++ rowsW r2 cI) := hD
  refine va_putF (D := D) (ci := 2) (v := .ref q2) (ty := .array (.array .int)) (C := RX2) (T := TX2) (N := 15) hx hb hts uw2 tyX2 tyX2_ok nmX2 hown hK hP hD hS 0 rfl rfl 2 (by decide) (hts _ kw_131) (fun _ h9 => h9) rfl hin rfl (by decide +kernel) rfl rfl (Nat.le_of_ble_eq_true rfl) d_X2_init_32 (fun H locs hP hD hS => ?_)
  have hP : va_P D vwCl ([(h0, .inr (2, [.ref cr, .ref q1, .ref q2, .null, .null, .null, .null, .null, .null, .null, .null, .int 0, .int 0, .int 0, .int 0])), (q1, .inl (cG, 51, .inr (.inr (.inr (.inr (fun i => some (r1 i)))))))] ++ rowsW r1 cI ++ [(q2, .inl (cG, 51, .inr (.inr (.inr (.inr (fun i => some (r2 i)))))))] ++ rowsW r2 cI) H := hP
  have hD : va_D A ([(h0, .inr (2, [.ref cr, .ref q1, .ref q2, .null, .null, .null, .null, .null, .null, .null, .null, .int 0, .int 0, .int 0, .int 0])), (q1, .inl (cG, 51, .inr (.inr (.inr (.inr (fun i => some (r1 i)))))))] ++ rowsW r1 cI ++ [(q2, .inl (cG, 51, .inr (.inr (.inr (.inr (fun i => some (r2 i)))))))] ++ rowsW r2 cI) := hD
  refine lv_aload_n hx hb d_X2_init_35 rfl (lv_at hl 0 rfl) ?_
  refine lv_sipush (v := 601) hx hb d_X2_init_36 (by decide) ?_
  refine va_newa (atype := .int) (ty := .int) (N' := 601) (a0 := (601, .inl (fun _ => 0))) hx hb (hts _ kw_arrI) rfl hK hP hD hS hA (fun cA => rfl) (by decide) (by decide) (Nat.le_of_ble_eq_true rfl) (Nat.le_of_ble_eq_true rfl) (Nat.le_of_ble_eq_true rfl) d_X2_init_39 (fun q3 cA H hK hP hD hS => ?_)
  refine W.widen (k := 105) (n := 62005) (Nat.le_of_ble_eq_true rfl) (Nat.le_of_ble_eq_true rfl) ?_
  have hK : va_K D vwCl [(cG, .array .int), (cA, .int)] s := hK
  have ey : cI = cA := rcU hK (by simp) hcI
  subst ey
  have hP : va_P D vwCl ([(h0, .inr (2, [.ref cr, .ref q1, .ref q2, .null, .null, .null, .null, .null, .null, .null, .null, .int 0, .int 0, .int 0, .int 0])), (q1, .inl (cG, 51, .inr (.inr (.inr (.inr (fun i => some (r1 i)))))))] ++ rowsW r1 cI ++ [(q2, .inl (cG, 51, .inr (.inr (.inr (.inr (fun i => some (r2 i)))))))] ++ rowsW r2 cI ++ [(q3, .inl (cI, 601, .inl (fun _ => 0)))]) H := hP
  have hD : va_D A ([(h0, .inr (2, [.ref cr, .ref q1, .ref q2, .null, .null, .null, .null, .null, .null, .null, .null, .int 0, .int 0, .int 0, .int 0])), (q1, .inl (cG, 51, .inr (.inr (.inr (.inr (fun i => some (r1 i)))))))] ++ rowsW r1 cI ++ [(q2, .inl (cG, 51, .inr (.inr (.inr (.inr (fun i => some (r2 i)))))))] ++ rowsW r2 cI ++ [(q3, .inl (cI, 601, .inl (fun _ => 0)))]) := hD
  refine va_putF (D := D) (ci := 2) (v := .ref q3) (ty := .array .int) (C := RX2) (T := TX2) (N := 15) hx hb hts uw2 tyX2 tyX2_ok nmX2 hown hK hP hD hS 0 rfl rfl 3 (by decide) (hts _ kw_132) (fun _ h9 => h9) rfl hin rfl (by decide +kernel) rfl rfl (Nat.le_of_ble_eq_true rfl) d_X2_init_41 (fun H locs hP hD hS => ?_)
  have hP : va_P D vwCl ([(h0, .inr (2, [.ref cr, .ref q1, .ref q2, .ref q3, .null, .null, .null, .null, .null, .null, .null, .int 0, .int 0, .int 0, .int 0])), (q1, .inl (cG, 51, .inr (.inr (.inr (.inr (fun i => some (r1 i)))))))] ++ rowsW r1 cI ++ [(q2, .inl (cG, 51, .inr (.inr (.inr (.inr (fun i => some (r2 i)))))))] ++ rowsW r2 cI ++ [(q3, .inl (cI, 601, .inl (fun _ => 0)))]) H := hP
  have hD : va_D A ([(h0, .inr (2, [.ref cr, .ref q1, .ref q2, .ref q3, .null, .null, .null, .null, .null, .null, .null, .int 0, .int 0, .int 0, .int 0])), (q1, .inl (cG, 51, .inr (.inr (.inr (.inr (fun i => some (r1 i)))))))] ++ rowsW r1 cI ++ [(q2, .inl (cG, 51, .inr (.inr (.inr (.inr (fun i => some (r2 i)))))))] ++ rowsW r2 cI ++ [(q3, .inl (cI, 601, .inl (fun _ => 0)))]) := hD
  refine lv_aload_n hx hb d_X2_init_44 rfl (lv_at hl 0 rfl) ?_
  refine lv_sipush (v := 601) hx hb d_X2_init_45 (by decide) ?_
  refine va_newa (atype := .int) (ty := .int) (N' := 601) (a0 := (601, .inl (fun _ => 0))) hx hb (hts _ kw_arrI) rfl hK hP hD hS hA (fun cA => rfl) (by decide) (by decide) (Nat.le_of_ble_eq_true rfl) (Nat.le_of_ble_eq_true rfl) (Nat.le_of_ble_eq_true rfl) d_X2_init_48 (fun q4 cA H hK hP hD hS => ?_)
  refine W.widen (k := 106) (n := 62606) (Nat.le_of_ble_eq_true rfl) (Nat.le_of_ble_eq_true rfl) ?_
  have hK : va_K D vwCl [(cG, .array .int), (cI, .int), (cA, .int)] s := hK
  have ey : cI = cA := tyU hK (t := .int) (by simp) (by simp)
  subst ey
  have hK := hK.sub (tys' := [(cG, .array .int), (cI, .int)]) [0, 1] rfl
  have hP : va_P D vwCl ([(h0, .inr (2, [.ref cr, .ref q1, .ref q2, .ref q3, .null, .null, .null, .null, .null, .null, .null, .int 0, .int 0, .int 0, .int 0])), (q1, .inl (cG, 51, .inr (.inr (.inr (.inr (fun i => some (r1 i)))))))] ++ rowsW r1 cI ++ [(q2, .inl (cG, 51, .inr (.inr (.inr (.inr (fun i => some (r2 i)))))))] ++ rowsW r2 cI ++ [(q3, .inl (cI, 601, .inl (fun _ => 0))), (q4, .inl (cI, 601, .inl (fun _ => 0)))]) H := hP
  have hD : va_D A ([(h0, .inr (2, [.ref cr, .ref q1, .ref q2, .ref q3, .null, .null, .null, .null, .null, .null, .null, .int 0, .int 0, .int 0, .int 0])), (q1, .inl (cG, 51, .inr (.inr (.inr (.inr (fun i => some (r1 i)))))))] ++ rowsW r1 cI ++ [(q2, .inl (cG, 51, .inr (.inr (.inr (.inr (fun i => some (r2 i)))))))] ++ rowsW r2 cI ++ [(q3, .inl (cI, 601, .inl (fun _ => 0))), (q4, .inl (cI, 601, .inl (fun _ => 0)))]) := hD
  refine va_putF (D := D) (ci := 2) (v := .ref q4) (ty := .array .int) (C := RX2) (T := TX2) (N := 15) hx hb hts uw2 tyX2 tyX2_ok nmX2 hown hK hP hD hS 0 rfl rfl 4 (by decide) (hts _ kw_133) (fun _ h9 => h9) rfl hin rfl (by decide +kernel) rfl rfl (Nat.le_of_ble_eq_true rfl) d_X2_init_50 (fun H locs hP hD hS => ?_)
  have hP : va_P D vwCl ([(h0, .inr (2, [.ref cr, .ref q1, .ref q2, .ref q3, .ref q4, .null, .null, .null, .null, .null, .null, .int 0, .int 0, .int 0, .int 0])), (q1, .inl (cG, 51, .inr (.inr (.inr (.inr (fun i => some (r1 i)))))))] ++ rowsW r1 cI ++ [(q2, .inl (cG, 51, .inr (.inr (.inr (.inr (fun i => some (r2 i)))))))] ++ rowsW r2 cI ++ [(q3, .inl (cI, 601, .inl (fun _ => 0))), (q4, .inl (cI, 601, .inl (fun _ => 0)))]) H := hP
  have hD : va_D A ([(h0, .inr (2, [.ref cr, .ref q1, .ref q2, .ref q3, .ref q4, .null, .null, .null, .null, .null, .null, .int 0, .int 0, .int 0, .int 0])), (q1, .inl (cG, 51, .inr (.inr (.inr (.inr (fun i => some (r1 i)))))))] ++ rowsW r1 cI ++ [(q2, .inl (cG, 51, .inr (.inr (.inr (.inr (fun i => some (r2 i)))))))] ++ rowsW r2 cI ++ [(q3, .inl (cI, 601, .inl (fun _ => 0))), (q4, .inl (cI, 601, .inl (fun _ => 0)))]) := hD
  refine lv_aload_n hx hb d_X2_init_53 rfl (lv_at hl 0 rfl) ?_
  refine lv_sipush (v := 601) hx hb d_X2_init_54 (by decide) ?_
  refine va_newa (atype := .int) (ty := .int) (N' := 601) (a0 := (601, .inl (fun _ => 0))) hx hb (hts _ kw_arrI) rfl hK hP hD hS hA (fun cA => rfl) (by decide) (by decide) (Nat.le_of_ble_eq_true rfl) (Nat.le_of_ble_eq_true rfl) (Nat.le_of_ble_eq_true rfl) d_X2_init_57 (fun q5 cA H hK hP hD hS => ?_)
  refine W.widen (k := 107) (n := 63207) (Nat.le_of_ble_eq_true rfl) (Nat.le_of_ble_eq_true rfl) ?_
  have hK : va_K D vwCl [(cG, .array .int), (cI, .int), (cA, .int)] s := hK
  have ey : cI = cA := tyU hK (t := .int) (by simp) (by simp)
  subst ey
  have hK := hK.sub (tys' := [(cG, .array .int), (cI, .int)]) [0, 1] rfl
  have hP : va_P D vwCl ([(h0, .inr (2, [.ref cr, .ref q1, .ref q2, .ref q3, .ref q4, .null, .null, .null, .null, .null, .null, .int 0, .int 0, .int 0, .int 0])), (q1, .inl (cG, 51, .inr (.inr (.inr (.inr (fun i => some (r1 i)))))))] ++ rowsW r1 cI ++ [(q2, .inl (cG, 51, .inr (.inr (.inr (.inr (fun i => some (r2 i)))))))] ++ rowsW r2 cI ++ [(q3, .inl (cI, 601, .inl (fun _ => 0))), (q4, .inl (cI, 601, .inl (fun _ => 0))), (q5, .inl (cI, 601, .inl (fun _ => 0)))]) H := hP
  have hD : va_D A ([(h0, .inr (2, [.ref cr, .ref q1, .ref q2, .ref q3, .ref q4, .null, .null, .null, .null, .null, .null, .int 0, .int 0, .int 0, .int 0])), (q1, .inl (cG, 51, .inr (.inr (.inr (.inr (fun i => some (r1 i)))))))] ++ rowsW r1 cI ++ [(q2, .inl (cG, 51, .inr (.inr (.inr (.inr (fun i => some (r2 i)))))))] ++ rowsW r2 cI ++ [(q3, .inl (cI, 601, .inl (fun _ => 0))), (q4, .inl (cI, 601, .inl (fun _ => 0))), (q5, .inl (cI, 601, .inl (fun _ => 0)))]) := hD
  refine va_putF (D := D) (ci := 2) (v := .ref q5) (ty := .array .int) (C := RX2) (T := TX2) (N := 15) hx hb hts uw2 tyX2 tyX2_ok nmX2 hown hK hP hD hS 0 rfl rfl 5 (by decide) (hts _ kw_134) (fun _ h9 => h9) rfl hin rfl (by decide +kernel) rfl rfl (Nat.le_of_ble_eq_true rfl) d_X2_init_59 (fun H locs hP hD hS => ?_)
  have hP : va_P D vwCl ([(h0, .inr (2, [.ref cr, .ref q1, .ref q2, .ref q3, .ref q4, .ref q5, .null, .null, .null, .null, .null, .int 0, .int 0, .int 0, .int 0])), (q1, .inl (cG, 51, .inr (.inr (.inr (.inr (fun i => some (r1 i)))))))] ++ rowsW r1 cI ++ [(q2, .inl (cG, 51, .inr (.inr (.inr (.inr (fun i => some (r2 i)))))))] ++ rowsW r2 cI ++ [(q3, .inl (cI, 601, .inl (fun _ => 0))), (q4, .inl (cI, 601, .inl (fun _ => 0))), (q5, .inl (cI, 601, .inl (fun _ => 0)))]) H := hP
  have hD : va_D A ([(h0, .inr (2, [.ref cr, .ref q1, .ref q2, .ref q3, .ref q4, .ref q5, .null, .null, .null, .null, .null, .int 0, .int 0, .int 0, .int 0])), (q1, .inl (cG, 51, .inr (.inr (.inr (.inr (fun i => some (r1 i)))))))] ++ rowsW r1 cI ++ [(q2, .inl (cG, 51, .inr (.inr (.inr (.inr (fun i => some (r2 i)))))))] ++ rowsW r2 cI ++ [(q3, .inl (cI, 601, .inl (fun _ => 0))), (q4, .inl (cI, 601, .inl (fun _ => 0))), (q5, .inl (cI, 601, .inl (fun _ => 0)))]) := hD
  refine lv_aload_n hx hb d_X2_init_62 rfl (lv_at hl 0 rfl) ?_
  refine lv_sipush (v := 601) hx hb d_X2_init_63 (by decide) ?_
  refine va_newa (atype := .int) (ty := .int) (N' := 601) (a0 := (601, .inl (fun _ => 0))) hx hb (hts _ kw_arrI) rfl hK hP hD hS hA (fun cA => rfl) (by decide) (by decide) (Nat.le_of_ble_eq_true rfl) (Nat.le_of_ble_eq_true rfl) (Nat.le_of_ble_eq_true rfl) d_X2_init_66 (fun q6 cA H hK hP hD hS => ?_)
  refine W.widen (k := 108) (n := 63808) (Nat.le_of_ble_eq_true rfl) (Nat.le_of_ble_eq_true rfl) ?_
  have hK : va_K D vwCl [(cG, .array .int), (cI, .int), (cA, .int)] s := hK
  have ey : cI = cA := tyU hK (t := .int) (by simp) (by simp)
  subst ey
  have hK := hK.sub (tys' := [(cG, .array .int), (cI, .int)]) [0, 1] rfl
  have hP : va_P D vwCl ([(h0, .inr (2, [.ref cr, .ref q1, .ref q2, .ref q3, .ref q4, .ref q5, .null, .null, .null, .null, .null, .int 0, .int 0, .int 0, .int 0])), (q1, .inl (cG, 51, .inr (.inr (.inr (.inr (fun i => some (r1 i)))))))] ++ rowsW r1 cI ++ [(q2, .inl (cG, 51, .inr (.inr (.inr (.inr (fun i => some (r2 i)))))))] ++ rowsW r2 cI ++ [(q3, .inl (cI, 601, .inl (fun _ => 0))), (q4, .inl (cI, 601, .inl (fun _ => 0))), (q5, .inl (cI, 601, .inl (fun _ => 0))), (q6, .inl (cI, 601, .inl (fun _ => 0)))]) H := hP
  have hD : va_D A ([(h0, .inr (2, [.ref cr, .ref q1, .ref q2, .ref q3, .ref q4, .ref q5, .null, .null, .null, .null, .null, .int 0, .int 0, .int 0, .int 0])), (q1, .inl (cG, 51, .inr (.inr (.inr (.inr (fun i => some (r1 i)))))))] ++ rowsW r1 cI ++ [(q2, .inl (cG, 51, .inr (.inr (.inr (.inr (fun i => some (r2 i)))))))] ++ rowsW r2 cI ++ [(q3, .inl (cI, 601, .inl (fun _ => 0))), (q4, .inl (cI, 601, .inl (fun _ => 0))), (q5, .inl (cI, 601, .inl (fun _ => 0))), (q6, .inl (cI, 601, .inl (fun _ => 0)))]) := hD
  refine va_putF (D := D) (ci := 2) (v := .ref q6) (ty := .array .int) (C := RX2) (T := TX2) (N := 15) hx hb hts uw2 tyX2 tyX2_ok nmX2 hown hK hP hD hS 0 rfl rfl 6 (by decide) (hts _ kw_135) (fun _ h9 => h9) rfl hin rfl (by decide +kernel) rfl rfl (Nat.le_of_ble_eq_true rfl) d_X2_init_68 (fun H locs hP hD hS => ?_)
  have hP : va_P D vwCl ([(h0, .inr (2, [.ref cr, .ref q1, .ref q2, .ref q3, .ref q4, .ref q5, .ref q6, .null, .null, .null, .null, .int 0, .int 0, .int 0, .int 0])), (q1, .inl (cG, 51, .inr (.inr (.inr (.inr (fun i => some (r1 i)))))))] ++ rowsW r1 cI ++ [(q2, .inl (cG, 51, .inr (.inr (.inr (.inr (fun i => some (r2 i)))))))] ++ rowsW r2 cI ++ [(q3, .inl (cI, 601, .inl (fun _ => 0))), (q4, .inl (cI, 601, .inl (fun _ => 0))), (q5, .inl (cI, 601, .inl (fun _ => 0))), (q6, .inl (cI, 601, .inl (fun _ => 0)))]) H := hP
  have hD : va_D A ([(h0, .inr (2, [.ref cr, .ref q1, .ref q2, .ref q3, .ref q4, .ref q5, .ref q6, .null, .null, .null, .null, .int 0, .int 0, .int 0, .int 0])), (q1, .inl (cG, 51, .inr (.inr (.inr (.inr (fun i => some (r1 i)))))))] ++ rowsW r1 cI ++ [(q2, .inl (cG, 51, .inr (.inr (.inr (.inr (fun i => some (r2 i)))))))] ++ rowsW r2 cI ++ [(q3, .inl (cI, 601, .inl (fun _ => 0))), (q4, .inl (cI, 601, .inl (fun _ => 0))), (q5, .inl (cI, 601, .inl (fun _ => 0))), (q6, .inl (cI, 601, .inl (fun _ => 0)))]) := hD
  refine lv_aload_n hx hb d_X2_init_71 rfl (lv_at hl 0 rfl) ?_
  refine lv_sipush (v := 601) hx hb d_X2_init_72 (by decide) ?_
  refine va_newa (atype := .int) (ty := .int) (N' := 601) (a0 := (601, .inl (fun _ => 0))) hx hb (hts _ kw_arrI) rfl hK hP hD hS hA (fun cA => rfl) (by decide) (by decide) (Nat.le_of_ble_eq_true rfl) (Nat.le_of_ble_eq_true rfl) (Nat.le_of_ble_eq_true rfl) d_X2_init_75 (fun q7 cA H hK hP hD hS => ?_)
  refine W.widen (k := 109) (n := 64409) (Nat.le_of_ble_eq_true rfl) (Nat.le_of_ble_eq_true rfl) ?_
  have hK : va_K D vwCl [(cG, .array .int), (cI, .int), (cA, .int)] s := hK
  have ey : cI = cA := tyU hK (t := .int) (by simp) (by simp)
  subst ey
  have hK := hK.sub (tys' := [(cG, .array .int), (cI, .int)]) [0, 1] rfl
  have hP : va_P D vwCl ([(h0, .inr (2, [.ref cr, .ref q1, .ref q2, .ref q3, .ref q4, .ref q5, .ref q6, .null, .null, .null, .null, .int 0, .int 0, .int 0, .int 0])), (q1, .inl (cG, 51, .inr (.inr (.inr (.inr (fun i => some (r1 i)))))))] ++ rowsW r1 cI ++ [(q2, .inl (cG, 51, .inr (.inr (.inr (.inr (fun i => some (r2 i)))))))] ++ rowsW r2 cI ++ [(q3, .inl (cI, 601, .inl (fun _ => 0))), (q4, .inl (cI, 601, .inl (fun _ => 0))), (q5, .inl (cI, 601, .inl (fun _ => 0))), (q6, .inl (cI, 601, .inl (fun _ => 0))), (q7, .inl (cI, 601, .inl (fun _ => 0)))]) H := hP
  have hD : va_D A ([(h0, .inr (2, [.ref cr, .ref q1, .ref q2, .ref q3, .ref q4, .ref q5, .ref q6, .null, .null, .null, .null, .int 0, .int 0, .int 0, .int 0])), (q1, .inl (cG, 51, .inr (.inr (.inr (.inr (fun i => some (r1 i)))))))] ++ rowsW r1 cI ++ [(q2, .inl (cG, 51, .inr (.inr (.inr (.inr (fun i => some (r2 i)))))))] ++ rowsW r2 cI ++ [(q3, .inl (cI, 601, .inl (fun _ => 0))), (q4, .inl (cI, 601, .inl (fun _ => 0))), (q5, .inl (cI, 601, .inl (fun _ => 0))), (q6, .inl (cI, 601, .inl (fun _ => 0))), (q7, .inl (cI, 601, .inl (fun _ => 0)))]) := hD
  refine va_putF (D := D) (ci := 2) (v := .ref q7) (ty := .array .int) (C := RX2) (T := TX2) (N := 15) hx hb hts uw2 tyX2 tyX2_ok nmX2 hown hK hP hD hS 0 rfl rfl 7 (by decide) (hts _ kw_136) (fun _ h9 => h9) rfl hin rfl (by decide +kernel) rfl rfl (Nat.le_of_ble_eq_true rfl) d_X2_init_77 (fun H locs hP hD hS => ?_)
  have hP : va_P D vwCl ([(h0, .inr (2, [.ref cr, .ref q1, .ref q2, .ref q3, .ref q4, .ref q5, .ref q6, .ref q7, .null, .null, .null, .int 0, .int 0, .int 0, .int 0])), (q1, .inl (cG, 51, .inr (.inr (.inr (.inr (fun i => some (r1 i)))))))] ++ rowsW r1 cI ++ [(q2, .inl (cG, 51, .inr (.inr (.inr (.inr (fun i => some (r2 i)))))))] ++ rowsW r2 cI ++ [(q3, .inl (cI, 601, .inl (fun _ => 0))), (q4, .inl (cI, 601, .inl (fun _ => 0))), (q5, .inl (cI, 601, .inl (fun _ => 0))), (q6, .inl (cI, 601, .inl (fun _ => 0))), (q7, .inl (cI, 601, .inl (fun _ => 0)))]) H := hP
  have hD : va_D A ([(h0, .inr (2, [.ref cr, .ref q1, .ref q2, .ref q3, .ref q4, .ref q5, .ref q6, .ref q7, .null, .null, .null, .int 0, .int 0, .int 0, .int 0])), (q1, .inl (cG, 51, .inr (.inr (.inr (.inr (fun i => some (r1 i)))))))] ++ rowsW r1 cI ++ [(q2, .inl (cG, 51, .inr (.inr (.inr (.inr (fun i => some (r2 i)))))))] ++ rowsW r2 cI ++ [(q3, .inl (cI, 601, .inl (fun _ => 0))), (q4, .inl (cI, 601, .inl (fun _ => 0))), (q5, .inl (cI, 601, .inl (fun _ => 0))), (q6, .inl (cI, 601, .inl (fun _ => 0))), (q7, .inl (cI, 601, .inl (fun _ => 0)))]) := hD
  refine lv_aload_n hx hb d_X2_init_80 rfl (lv_at hl 0 rfl) ?_
  refine lv_bipush (v := 50) hx hb d_X2_init_81 (by decide) ?_
  refine va_newa (atype := .int) (ty := .int) (N' := 50) (a0 := (50, .inl (fun _ => 0))) hx hb (hts _ kw_arrI) rfl hK hP hD hS hA (fun cA => rfl) (by decide) (by decide) (Nat.le_of_ble_eq_true rfl) (Nat.le_of_ble_eq_true rfl) (Nat.le_of_ble_eq_true rfl) d_X2_init_83 (fun q8 cA H hK hP hD hS => ?_)
  refine W.widen (k := 110) (n := 64459) (Nat.le_of_ble_eq_true rfl) (Nat.le_of_ble_eq_true rfl) ?_
  have hK : va_K D vwCl [(cG, .array .int), (cI, .int), (cA, .int)] s := hK
  have ey : cI = cA := tyU hK (t := .int) (by simp) (by simp)
  subst ey
  have hK := hK.sub (tys' := [(cG, .array .int), (cI, .int)]) [0, 1] rfl
  have hP : va_P D vwCl ([(h0, .inr (2, [.ref cr, .ref q1, .ref q2, .ref q3, .ref q4, .ref q5, .ref q6, .ref q7, .null, .null, .null, .int 0, .int 0, .int 0, .int 0])), (q1, .inl (cG, 51, .inr (.inr (.inr (.inr (fun i => some (r1 i)))))))] ++ rowsW r1 cI ++ [(q2, .inl (cG, 51, .inr (.inr (.inr (.inr (fun i => some (r2 i)))))))] ++ rowsW r2 cI ++ [(q3, .inl (cI, 601, .inl (fun _ => 0))), (q4, .inl (cI, 601, .inl (fun _ => 0))), (q5, .inl (cI, 601, .inl (fun _ => 0))), (q6, .inl (cI, 601, .inl (fun _ => 0))), (q7, .inl (cI, 601, .inl (fun _ => 0))), (q8, .inl (cI, 50, .inl (fun _ => 0)))]) H := hP
  have hD : va_D A ([(h0, .inr (2, [.ref cr, .ref q1, .ref q2, .ref q3, .ref q4, .ref q5, .ref q6, .ref q7, .null, .null, .null, .int 0, .int 0, .int 0, .int 0])), (q1, .inl (cG, 51, .inr (.inr (.inr (.inr (fun i => some (r1 i)))))))] ++ rowsW r1 cI ++ [(q2, .inl (cG, 51, .inr (.inr (.inr (.inr (fun i => some (r2 i)))))))] ++ rowsW r2 cI ++ [(q3, .inl (cI, 601, .inl (fun _ => 0))), (q4, .inl (cI, 601, .inl (fun _ => 0))), (q5, .inl (cI, 601, .inl (fun _ => 0))), (q6, .inl (cI, 601, .inl (fun _ => 0))), (q7, .inl (cI, 601, .inl (fun _ => 0))), (q8, .inl (cI, 50, .inl (fun _ => 0)))]) := hD
  refine va_putF (D := D) (ci := 2) (v := .ref q8) (ty := .array .int) (C := RX2) (T := TX2) (N := 15) hx hb hts uw2 tyX2 tyX2_ok nmX2 hown hK hP hD hS 0 rfl rfl 8 (by decide) (hts _ kw_137) (fun _ h9 => h9) rfl hin rfl (by decide +kernel) rfl rfl (Nat.le_of_ble_eq_true rfl) d_X2_init_85 (fun H locs hP hD hS => ?_)
  have hP : va_P D vwCl ([(h0, .inr (2, [.ref cr, .ref q1, .ref q2, .ref q3, .ref q4, .ref q5, .ref q6, .ref q7, .ref q8, .null, .null, .int 0, .int 0, .int 0, .int 0])), (q1, .inl (cG, 51, .inr (.inr (.inr (.inr (fun i => some (r1 i)))))))] ++ rowsW r1 cI ++ [(q2, .inl (cG, 51, .inr (.inr (.inr (.inr (fun i => some (r2 i)))))))] ++ rowsW r2 cI ++ [(q3, .inl (cI, 601, .inl (fun _ => 0))), (q4, .inl (cI, 601, .inl (fun _ => 0))), (q5, .inl (cI, 601, .inl (fun _ => 0))), (q6, .inl (cI, 601, .inl (fun _ => 0))), (q7, .inl (cI, 601, .inl (fun _ => 0))), (q8, .inl (cI, 50, .inl (fun _ => 0)))]) H := hP
  have hD : va_D A ([(h0, .inr (2, [.ref cr, .ref q1, .ref q2, .ref q3, .ref q4, .ref q5, .ref q6, .ref q7, .ref q8, .null, .null, .int 0, .int 0, .int 0, .int 0])), (q1, .inl (cG, 51, .inr (.inr (.inr (.inr (fun i => some (r1 i)))))))] ++ rowsW r1 cI ++ [(q2, .inl (cG, 51, .inr (.inr (.inr (.inr (fun i => some (r2 i)))))))] ++ rowsW r2 cI ++ [(q3, .inl (cI, 601, .inl (fun _ => 0))), (q4, .inl (cI, 601, .inl (fun _ => 0))), (q5, .inl (cI, 601, .inl (fun _ => 0))), (q6, .inl (cI, 601, .inl (fun _ => 0))), (q7, .inl (cI, 601, .inl (fun _ => 0))), (q8, .inl (cI, 50, .inl (fun _ => 0)))]) := hD
  refine lv_aload_n hx hb d_X2_init_88 rfl (lv_at hl 0 rfl) ?_
  refine lv_bipush (v := 50) hx hb d_X2_init_89 (by decide) ?_
  refine va_newa (atype := .int) (ty := .int) (N' := 50) (a0 := (50, .inl (fun _ => 0))) hx hb (hts _ kw_arrI) rfl hK hP hD hS hA (fun cA => rfl) (by decide) (by decide) (Nat.le_of_ble_eq_true rfl) (Nat.le_of_ble_eq_true rfl) (Nat.le_of_ble_eq_true rfl) d_X2_init_91 (fun q9 cA H hK hP hD hS => ?_)
  refine W.widen (k := 111) (n := 64509) (Nat.le_of_ble_eq_true rfl) (Nat.le_of_ble_eq_true rfl) ?_
  have hK : va_K D vwCl [(cG, .array .int), (cI, .int), (cA, .int)] s := hK
  have ey : cI = cA := tyU hK (t := .int) (by simp) (by simp)
  subst ey
  have hK := hK.sub (tys' := [(cG, .array .int), (cI, .int)]) [0, 1] rfl
  have hP : va_P D vwCl ([(h0, .inr (2, [.ref cr, .ref q1, .ref q2, .ref q3, .ref q4, .ref q5, .ref q6, .ref q7, .ref q8, .null, .null, .int 0, .int 0, .int 0, .int 0])), (q1, .inl (cG, 51, .inr (.inr (.inr (.inr (fun i => some (r1 i)))))))] ++ rowsW r1 cI ++ [(q2, .inl (cG, 51, .inr (.inr (.inr (.inr (fun i => some (r2 i)))))))] ++ rowsW r2 cI ++ [(q3, .inl (cI, 601, .inl (fun _ => 0))), (q4, .inl (cI, 601, .inl (fun _ => 0))), (q5, .inl (cI, 601, .inl (fun _ => 0))), (q6, .inl (cI, 601, .inl (fun _ => 0))), (q7, .inl (cI, 601, .inl (fun _ => 0))), (q8, .inl (cI, 50, .inl (fun _ => 0))), (q9, .inl (cI, 50, .inl (fun _ => 0)))]) H := hP
  have hD : va_D A ([(h0, .inr (2, [.ref cr, .ref q1, .ref q2, .ref q3, .ref q4, .ref q5, .ref q6, .ref q7, .ref q8, .null, .null, .int 0, .int 0, .int 0, .int 0])), (q1, .inl (cG, 51, .inr (.inr (.inr (.inr (fun i => some (r1 i)))))))] ++ rowsW r1 cI ++ [(q2, .inl (cG, 51, .inr (.inr (.inr (.inr (fun i => some (r2 i)))))))] ++ rowsW r2 cI ++ [(q3, .inl (cI, 601, .inl (fun _ => 0))), (q4, .inl (cI, 601, .inl (fun _ => 0))), (q5, .inl (cI, 601, .inl (fun _ => 0))), (q6, .inl (cI, 601, .inl (fun _ => 0))), (q7, .inl (cI, 601, .inl (fun _ => 0))), (q8, .inl (cI, 50, .inl (fun _ => 0))), (q9, .inl (cI, 50, .inl (fun _ => 0)))]) := hD
  refine va_putF (D := D) (ci := 2) (v := .ref q9) (ty := .array .int) (C := RX2) (T := TX2) (N := 15) hx hb hts uw2 tyX2 tyX2_ok nmX2 hown hK hP hD hS 0 rfl rfl 9 (by decide) (hts _ kw_139) (fun _ h9 => h9) rfl hin rfl (by decide +kernel) rfl rfl (Nat.le_of_ble_eq_true rfl) d_X2_init_93 (fun H locs hP hD hS => ?_)
  have hP : va_P D vwCl ([(h0, .inr (2, [.ref cr, .ref q1, .ref q2, .ref q3, .ref q4, .ref q5, .ref q6, .ref q7, .ref q8, .ref q9, .null, .int 0, .int 0, .int 0, .int 0])), (q1, .inl (cG, 51, .inr (.inr (.inr (.inr (fun i => some (r1 i)))))))] ++ rowsW r1 cI ++ [(q2, .inl (cG, 51, .inr (.inr (.inr (.inr (fun i => some (r2 i)))))))] ++ rowsW r2 cI ++ [(q3, .inl (cI, 601, .inl (fun _ => 0))), (q4, .inl (cI, 601, .inl (fun _ => 0))), (q5, .inl (cI, 601, .inl (fun _ => 0))), (q6, .inl (cI, 601, .inl (fun _ => 0))), (q7, .inl (cI, 601, .inl (fun _ => 0))), (q8, .inl (cI, 50, .inl (fun _ => 0))), (q9, .inl (cI, 50, .inl (fun _ => 0)))]) H := hP
  have hD : va_D A ([(h0, .inr (2, [.ref cr, .ref q1, .ref q2, .ref q3, .ref q4, .ref q5, .ref q6, .ref q7, .ref q8, .ref q9, .null, .int 0, .int 0, .int 0, .int 0])), (q1, .inl (cG, 51, .inr (.inr (.inr (.inr (fun i => some (r1 i)))))))] ++ rowsW r1 cI ++ [(q2, .inl (cG, 51, .inr (.inr (.inr (.inr (fun i => some (r2 i)))))))] ++ rowsW r2 cI ++ [(q3, .inl (cI, 601, .inl (fun _ => 0))), (q4, .inl (cI, 601, .inl (fun _ => 0))), (q5, .inl (cI, 601, .inl (fun _ => 0))), (q6, .inl (cI, 601, .inl (fun _ => 0))), (q7, .inl (cI, 601, .inl (fun _ => 0))), (q8, .inl (cI, 50, .inl (fun _ => 0))), (q9, .inl (cI, 50, .inl (fun _ => 0)))]) := hD
  refine lv_aload_n hx hb d_X2_init_96 rfl (lv_at hl 0 rfl) ?_
  refine lv_bipush (v := 51) hx hb d_X2_init_97 (by decide) ?_
  refine va_newa (atype := .int) (ty := .int) (N' := 51) (a0 := (51, .inl (fun _ => 0))) hx hb (hts _ kw_arrI) rfl hK hP hD hS hA (fun cA => rfl) (by decide) (by decide) (Nat.le_of_ble_eq_true rfl) (Nat.le_of_ble_eq_true rfl) (Nat.le_of_ble_eq_true rfl) d_X2_init_99 (fun q10 cA H hK hP hD hS => ?_)
  refine W.widen (k := 112) (n := 64560) (Nat.le_of_ble_eq_true rfl) (Nat.le_of_ble_eq_true rfl) ?_
  have hK : va_K D vwCl [(cG, .array .int), (cI, .int), (cA, .int)] s := hK
  have ey : cI = cA := tyU hK (t := .int) (by simp) (by simp)
  subst ey
  have hK := hK.sub (tys' := [(cG, .array .int), (cI, .int)]) [0, 1] rfl
  have hP : va_P D vwCl ([(h0, .inr (2, [.ref cr, .ref q1, .ref q2, .ref q3, .ref q4, .ref q5, .ref q6, .ref q7, .ref q8, .ref q9, .null, .int 0, .int 0, .int 0, .int 0])), (q1, .inl (cG, 51, .inr (.inr (.inr (.inr (fun i => some (r1 i)))))))] ++ rowsW r1 cI ++ [(q2, .inl (cG, 51, .inr (.inr (.inr (.inr (fun i => some (r2 i)))))))] ++ rowsW r2 cI ++ [(q3, .inl (cI, 601, .inl (fun _ => 0))), (q4, .inl (cI, 601, .inl (fun _ => 0))), (q5, .inl (cI, 601, .inl (fun _ => 0))), (q6, .inl (cI, 601, .inl (fun _ => 0))), (q7, .inl (cI, 601, .inl (fun _ => 0))), (q8, .inl (cI, 50, .inl (fun _ => 0))), (q9, .inl (cI, 50, .inl (fun _ => 0))), (q10, .inl (cI, 51, .inl (fun _ => 0)))]) H := hP
  have hD : va_D A ([(h0, .inr (2, [.ref cr, .ref q1, .ref q2, .ref q3, .ref q4, .ref q5, .ref q6, .ref q7, .ref q8, .ref q9, .null, .int 0, .int 0, .int 0, .int 0])), (q1, .inl (cG, 51, .inr (.inr (.inr (.inr (fun i => some (r1 i)))))))] ++ rowsW r1 cI ++ [(q2, .inl (cG, 51, .inr (.inr (.inr (.inr (fun i => some (r2 i)))))))] ++ rowsW r2 cI ++ [(q3, .inl (cI, 601, .inl (fun _ => 0))), (q4, .inl (cI, 601, .inl (fun _ => 0))), (q5, .inl (cI, 601, .inl (fun _ => 0))), (q6, .inl (cI, 601, .inl (fun _ => 0))), (q7, .inl (cI, 601, .inl (fun _ => 0))), (q8, .inl (cI, 50, .inl (fun _ => 0))), (q9, .inl (cI, 50, .inl (fun _ => 0))), (q10, .inl (cI, 51, .inl (fun _ => 0)))]) := hD
  refine va_putF (D := D) (ci := 2) (v := .ref q10) (ty := .array .int) (C := RX2) (T := TX2) (N := 15) hx hb hts uw2 tyX2 tyX2_ok nmX2 hown hK hP hD hS 0 rfl rfl 10 (by decide) (hts _ kw_141) (fun _ h9 => h9) rfl hin rfl (by decide +kernel) rfl rfl (Nat.le_of_ble_eq_true rfl) d_X2_init_101 (fun H locs hP hD hS => ?_)
  have hP : va_P D vwCl ([(h0, .inr (2, [.ref cr, .ref q1, .ref q2, .ref q3, .ref q4, .ref q5, .ref q6, .ref q7, .ref q8, .ref q9, .ref q10, .int 0, .int 0, .int 0, .int 0])), (q1, .inl (cG, 51, .inr (.inr (.inr (.inr (fun i => some (r1 i)))))))] ++ rowsW r1 cI ++ [(q2, .inl (cG, 51, .inr (.inr (.inr (.inr (fun i => some (r2 i)))))))] ++ rowsW r2 cI ++ [(q3, .inl (cI, 601, .inl (fun _ => 0))), (q4, .inl (cI, 601, .inl (fun _ => 0))), (q5, .inl (cI, 601, .inl (fun _ => 0))), (q6, .inl (cI, 601, .inl (fun _ => 0))), (q7, .inl (cI, 601, .inl (fun _ => 0))), (q8, .inl (cI, 50, .inl (fun _ => 0))), (q9, .inl (cI, 50, .inl (fun _ => 0))), (q10, .inl (cI, 51, .inl (fun _ => 0)))]) H := hP
  have hD : va_D A ([(h0, .inr (2, [.ref cr, .ref q1, .ref q2, .ref q3, .ref q4, .ref q5, .ref q6, .ref q7, .ref q8, .ref q9, .ref q10, .int 0, .int 0, .int 0, .int 0])), (q1, .inl (cG, 51, .inr (.inr (.inr (.inr (fun i => some (r1 i)))))))] ++ rowsW r1 cI ++ [(q2, .inl (cG, 51, .inr (.inr (.inr (.inr (fun i => some (r2 i)))))))] ++ rowsW r2 cI ++ [(q3, .inl (cI, 601, .inl (fun _ => 0))), (q4, .inl (cI, 601, .inl (fun _ => 0))), (q5, .inl (cI, 601, .inl (fun _ => 0))), (q6, .inl (cI, 601, .inl (fun _ => 0))), (q7, .inl (cI, 601, .inl (fun _ => 0))), (q8, .inl (cI, 50, .inl (fun _ => 0))), (q9, .inl (cI, 50, .inl (fun _ => 0))), (q10, .inl (cI, 51, .inl (fun _ => 0)))]) := hD
  refine lv_aload_n hx hb d_X2_init_104 rfl (lv_at hl 0 rfl) ?_
  refine lv_iconst (v := 0) hx hb d_X2_init_105 (by decide) ?_
  refine va_put (D := D) (ci := 2) (v := .int 0) (ty := .int) (C := RX2) (T := TX2) (N := 15) hx hb hts uw2 tyX2 tyX2_ok nmX2 hown hK hP hD hS 0 rfl rfl 11 (by decide) (hts _ kw_143) (fun _ h9 => h9) rfl (by decide +kernel) rfl rfl (Nat.le_of_ble_eq_true rfl) d_X2_init_106 (fun H locs hP hD hS => ?_)
  have hP : va_P D vwCl ([(h0, .inr (2, [.ref cr, .ref q1, .ref q2, .ref q3, .ref q4, .ref q5, .ref q6, .ref q7, .ref q8, .ref q9, .ref q10, .int 0, .int 0, .int 0, .int 0])), (q1, .inl (cG, 51, .inr (.inr (.inr (.inr (fun i => some (r1 i)))))))] ++ rowsW r1 cI ++ [(q2, .inl (cG, 51, .inr (.inr (.inr (.inr (fun i => some (r2 i)))))))] ++ rowsW r2 cI ++ [(q3, .inl (cI, 601, .inl (fun _ => 0))), (q4, .inl (cI, 601, .inl (fun _ => 0))), (q5, .inl (cI, 601, .inl (fun _ => 0))), (q6, .inl (cI, 601, .inl (fun _ => 0))), (q7, .inl (cI, 601, .inl (fun _ => 0))), (q8, .inl (cI, 50, .inl (fun _ => 0))), (q9, .inl (cI, 50, .inl (fun _ => 0))), (q10, .inl (cI, 51, .inl (fun _ => 0)))]) H := hP
  have hD : va_D A ([(h0, .inr (2, [.ref cr, .ref q1, .ref q2, .ref q3, .ref q4, .ref q5, .ref q6, .ref q7, .ref q8, .ref q9, .ref q10, .int 0, .int 0, .int 0, .int 0])), (q1, .inl (cG, 51, .inr (.inr (.inr (.inr (fun i => some (r1 i)))))))] ++ rowsW r1 cI ++ [(q2, .inl (cG, 51, .inr (.inr (.inr (.inr (fun i => some (r2 i)))))))] ++ rowsW r2 cI ++ [(q3, .inl (cI, 601, .inl (fun _ => 0))), (q4, .inl (cI, 601, .inl (fun _ => 0))), (q5, .inl (cI, 601, .inl (fun _ => 0))), (q6, .inl (cI, 601, .inl (fun _ => 0))), (q7, .inl (cI, 601, .inl (fun _ => 0))), (q8, .inl (cI, 50, .inl (fun _ => 0))), (q9, .inl (cI, 50, .inl (fun _ => 0))), (q10, .inl (cI, 51, .inl (fun _ => 0)))]) := hD
  refine lv_aload_n hx hb d_X2_init_109 rfl (lv_at hl 0 rfl) ?_
  refine lv_iconst (v := 0) hx hb d_X2_init_110 (by decide) ?_
  refine va_put (D := D) (ci := 2) (v := .int 0) (ty := .boolean) (C := RX2) (T := TX2) (N := 15) hx hb hts uw2 tyX2 tyX2_ok nmX2 hown hK hP hD hS 0 rfl rfl 12 (by decide) (hts _ kw_144) (fun _ h9 => h9) rfl (by decide +kernel) rfl rfl (Nat.le_of_ble_eq_true rfl) d_X2_init_111 (fun H locs hP hD hS => ?_)
  have hP : va_P D vwCl ([(h0, .inr (2, [.ref cr, .ref q1, .ref q2, .ref q3, .ref q4, .ref q5, .ref q6, .ref q7, .ref q8, .ref q9, .ref q10, .int 0, .int 0, .int 0, .int 0])), (q1, .inl (cG, 51, .inr (.inr (.inr (.inr (fun i => some (r1 i)))))))] ++ rowsW r1 cI ++ [(q2, .inl (cG, 51, .inr (.inr (.inr (.inr (fun i => some (r2 i)))))))] ++ rowsW r2 cI ++ [(q3, .inl (cI, 601, .inl (fun _ => 0))), (q4, .inl (cI, 601, .inl (fun _ => 0))), (q5, .inl (cI, 601, .inl (fun _ => 0))), (q6, .inl (cI, 601, .inl (fun _ => 0))), (q7, .inl (cI, 601, .inl (fun _ => 0))), (q8, .inl (cI, 50, .inl (fun _ => 0))), (q9, .inl (cI, 50, .inl (fun _ => 0))), (q10, .inl (cI, 51, .inl (fun _ => 0)))]) H := hP
  have hD : va_D A ([(h0, .inr (2, [.ref cr, .ref q1, .ref q2, .ref q3, .ref q4, .ref q5, .ref q6, .ref q7, .ref q8, .ref q9, .ref q10, .int 0, .int 0, .int 0, .int 0])), (q1, .inl (cG, 51, .inr (.inr (.inr (.inr (fun i => some (r1 i)))))))] ++ rowsW r1 cI ++ [(q2, .inl (cG, 51, .inr (.inr (.inr (.inr (fun i => some (r2 i)))))))] ++ rowsW r2 cI ++ [(q3, .inl (cI, 601, .inl (fun _ => 0))), (q4, .inl (cI, 601, .inl (fun _ => 0))), (q5, .inl (cI, 601, .inl (fun _ => 0))), (q6, .inl (cI, 601, .inl (fun _ => 0))), (q7, .inl (cI, 601, .inl (fun _ => 0))), (q8, .inl (cI, 50, .inl (fun _ => 0))), (q9, .inl (cI, 50, .inl (fun _ => 0))), (q10, .inl (cI, 51, .inl (fun _ => 0)))]) := hD
  refine lv_aload_n hx hb d_X2_init_114 rfl (lv_at hl 0 rfl) ?_
  refine lv_iconst (v := 0) hx hb d_X2_init_115 (by decide) ?_
  refine va_put (D := D) (ci := 2) (v := .int 0) (ty := .boolean) (C := RX2) (T := TX2) (N := 15) hx hb hts uw2 tyX2 tyX2_ok nmX2 hown hK hP hD hS 0 rfl rfl 13 (by decide) (hts _ kw_145) (fun _ h9 => h9) rfl (by decide +kernel) rfl rfl (Nat.le_of_ble_eq_true rfl) d_X2_init_116 (fun H locs hP hD hS => ?_)
  have hP : va_P D vwCl ([(h0, .inr (2, [.ref cr, .ref q1, .ref q2, .ref q3, .ref q4, .ref q5, .ref q6, .ref q7, .ref q8, .ref q9, .ref q10, .int 0, .int 0, .int 0, .int 0])), (q1, .inl (cG, 51, .inr (.inr (.inr (.inr (fun i => some (r1 i)))))))] ++ rowsW r1 cI ++ [(q2, .inl (cG, 51, .inr (.inr (.inr (.inr (fun i => some (r2 i)))))))] ++ rowsW r2 cI ++ [(q3, .inl (cI, 601, .inl (fun _ => 0))), (q4, .inl (cI, 601, .inl (fun _ => 0))), (q5, .inl (cI, 601, .inl (fun _ => 0))), (q6, .inl (cI, 601, .inl (fun _ => 0))), (q7, .inl (cI, 601, .inl (fun _ => 0))), (q8, .inl (cI, 50, .inl (fun _ => 0))), (q9, .inl (cI, 50, .inl (fun _ => 0))), (q10, .inl (cI, 51, .inl (fun _ => 0)))]) H := hP
  have hD : va_D A ([(h0, .inr (2, [.ref cr, .ref q1, .ref q2, .ref q3, .ref q4, .ref q5, .ref q6, .ref q7, .ref q8, .ref q9, .ref q10, .int 0, .int 0, .int 0, .int 0])), (q1, .inl (cG, 51, .inr (.inr (.inr (.inr (fun i => some (r1 i)))))))] ++ rowsW r1 cI ++ [(q2, .inl (cG, 51, .inr (.inr (.inr (.inr (fun i => some (r2 i)))))))] ++ rowsW r2 cI ++ [(q3, .inl (cI, 601, .inl (fun _ => 0))), (q4, .inl (cI, 601, .inl (fun _ => 0))), (q5, .inl (cI, 601, .inl (fun _ => 0))), (q6, .inl (cI, 601, .inl (fun _ => 0))), (q7, .inl (cI, 601, .inl (fun _ => 0))), (q8, .inl (cI, 50, .inl (fun _ => 0))), (q9, .inl (cI, 50, .inl (fun _ => 0))), (q10, .inl (cI, 51, .inl (fun _ => 0)))]) := hD
  refine lv_aload_n hx hb d_X2_init_119 rfl (lv_at hl 0 rfl) ?_
  refine lv_iconst (v := (-1)) hx hb d_X2_init_120 (by decide) ?_
  refine va_put (D := D) (ci := 2) (v := .int (-1)) (ty := .int) (C := RX2) (T := TX2) (N := 15) hx hb hts uw2 tyX2 tyX2_ok nmX2 hown hK hP hD hS 0 rfl rfl 14 (by decide) (hts _ kw_146) (fun _ h9 => h9) rfl (by decide +kernel) rfl rfl (Nat.le_of_ble_eq_true rfl) d_X2_init_121 (fun H locs hP hD hS => ?_)
  have hP : va_P D vwCl ([(h0, .inr (2, [.ref cr, .ref q1, .ref q2, .ref q3, .ref q4, .ref q5, .ref q6, .ref q7, .ref q8, .ref q9, .ref q10, .int 0, .int 0, .int 0, .int (-1)])), (q1, .inl (cG, 51, .inr (.inr (.inr (.inr (fun i => some (r1 i)))))))] ++ rowsW r1 cI ++ [(q2, .inl (cG, 51, .inr (.inr (.inr (.inr (fun i => some (r2 i)))))))] ++ rowsW r2 cI ++ [(q3, .inl (cI, 601, .inl (fun _ => 0))), (q4, .inl (cI, 601, .inl (fun _ => 0))), (q5, .inl (cI, 601, .inl (fun _ => 0))), (q6, .inl (cI, 601, .inl (fun _ => 0))), (q7, .inl (cI, 601, .inl (fun _ => 0))), (q8, .inl (cI, 50, .inl (fun _ => 0))), (q9, .inl (cI, 50, .inl (fun _ => 0))), (q10, .inl (cI, 51, .inl (fun _ => 0)))]) H := hP
  have hD : va_D A ([(h0, .inr (2, [.ref cr, .ref q1, .ref q2, .ref q3, .ref q4, .ref q5, .ref q6, .ref q7, .ref q8, .ref q9, .ref q10, .int 0, .int 0, .int 0, .int (-1)])), (q1, .inl (cG, 51, .inr (.inr (.inr (.inr (fun i => some (r1 i)))))))] ++ rowsW r1 cI ++ [(q2, .inl (cG, 51, .inr (.inr (.inr (.inr (fun i => some (r2 i)))))))] ++ rowsW r2 cI ++ [(q3, .inl (cI, 601, .inl (fun _ => 0))), (q4, .inl (cI, 601, .inl (fun _ => 0))), (q5, .inl (cI, 601, .inl (fun _ => 0))), (q6, .inl (cI, 601, .inl (fun _ => 0))), (q7, .inl (cI, 601, .inl (fun _ => 0))), (q8, .inl (cI, 50, .inl (fun _ => 0))), (q9, .inl (cI, 50, .inl (fun _ => 0))), (q10, .inl (cI, 51, .inl (fun _ => 0)))]) := hD
  obtain ⟨u9, eu9⟩ : ∃ u : (Nat → Nat) × (Nat → Nat → Nat) × (Nat → ClassId), u = ((fun i : Nat => [q1, q2].getD i 0), (fun i : Nat => [r1, r2, (fun i : Nat => [q3, q4, q5, q6, q7, q8, q9, q10].getD i 0)].getD i r1), (fun i : Nat => [cG, cI].getD i cI)) := ⟨_, rfl⟩
  have hP9 : va_P D vwCl (reckW h0 cr (u9.1 0) (u9.1 1) (u9.2.1 0) (u9.2.1 1) (u9.2.1 2) (u9.2.2 0) (u9.2.2 1)) H := by rw [eu9]; exact hP
  have hD9 : va_D A (reckW h0 cr (u9.1 0) (u9.1 1) (u9.2.1 0) (u9.2.1 1) (u9.2.1 2) (u9.2.2 0) (u9.2.2 1)) := by rw [eu9]; exact hD
  have hK9 : va_K D vwCl ([(u9.2.2 0, .array .int), (u9.2.2 1, .int)]) s := by rw [eu9]; exact hK
  exact W.vret hx hb hr (fun t ht hW => ⟨⟨u9, rfl, trivial, by rw [ht]; exact hP9, va_K.moved hW.alike hK9, hD9⟩, hS.F ht⟩) hS.2.2 d_X2_init_124
theorem d_X4_init_0 : decode cX4_init 0 = .ok (.aload_n 0, 1) := by decide +kernel
theorem d_X4_init_1 : decode cX4_init 1 = .ok (.invokespecial 1, 3) := by decide +kernel
theorem d_X4_init_4 : decode cX4_init 4 = .ok (.aload_n 0, 1) := by decide +kernel
theorem d_X4_init_5 : decode cX4_init 5 = .ok (.new 7, 3) := by decide +kernel
theorem d_X4_init_8 : decode cX4_init 8 = .ok (.dup, 1) := by decide +kernel
theorem d_X4_init_9 : decode cX4_init 9 = .ok (.invokespecial 9, 3) := by decide +kernel
theorem d_X4_init_12 : decode cX4_init 12 = .ok (.putfield 10, 3) := by decide +kernel
theorem d_X4_init_15 : decode cX4_init 15 = .ok (.aload_n 0, 1) := by decide +kernel
theorem d_X4_init_16 : decode cX4_init 16 = .ok (.new 16, 3) := by decide +kernel
theorem d_X4_init_19 : decode cX4_init 19 = .ok (.dup, 1) := by decide +kernel
theorem d_X4_init_20 : decode cX4_init 20 = .ok (.invokespecial 18, 3) := by decide +kernel
theorem d_X4_init_23 : decode cX4_init 23 = .ok (.putfield 19, 3) := by decide +kernel
theorem d_X4_init_26 : decode cX4_init 26 = .ok (.aload_n 0, 1) := by decide +kernel
theorem d_X4_init_27 : decode cX4_init 27 = .ok (.new 23, 3) := by decide +kernel
theorem d_X4_init_30 : decode cX4_init 30 = .ok (.dup, 1) := by decide +kernel
theorem d_X4_init_31 : decode cX4_init 31 = .ok (.invokespecial 25, 3) := by decide +kernel
theorem d_X4_init_34 : decode cX4_init 34 = .ok (.putfield 26, 3) := by decide +kernel
theorem d_X4_init_37 : decode cX4_init 37 = .ok (.aload_n 0, 1) := by decide +kernel
theorem d_X4_init_38 : decode cX4_init 38 = .ok (.new 30, 3) := by decide +kernel
theorem d_X4_init_41 : decode cX4_init 41 = .ok (.dup, 1) := by decide +kernel
theorem d_X4_init_42 : decode cX4_init 42 = .ok (.aload_n 0, 1) := by decide +kernel
theorem d_X4_init_43 : decode cX4_init 43 = .ok (.getfield 10, 3) := by decide +kernel
theorem d_X4_init_46 : decode cX4_init 46 = .ok (.invokespecial 32, 3) := by decide +kernel
theorem d_X4_init_49 : decode cX4_init 49 = .ok (.putfield 35, 3) := by decide +kernel
theorem d_X4_init_52 : decode cX4_init 52 = .ok (.return_, 1) := by decide +kernel
set_option maxHeartbeats 8000000 in
set_option maxRecDepth 100000 in
theorem k_X4_init (hG : Mna) (l : Launch) (D : va_G) (h0 : Nat) (sz : Nat) : Met l yX4_init (.code yX4_init cX4_init 1 none :: BG) ({ frames := 4, cells := 181, slots := 66126, locals := 100 }) (va_Pc [.ref h0] (fun U => PreK D sz [(h0, .inr (4, [.null, .null, .null, .null]))] U ∧ E4 U)) (va_Qv (fun _ : (Nat → Nat) × (Nat → Nat → Nat) × (Nat → ClassId) => True) (fun u t => PostK D (va_A [(h0, .inr (4, [.null, .null, .null, .null]))] sz) (clockW h0 u.1 u.2.1 u.2.2) ([(u.2.2 0, .int), (u.2.2 2, .object RX0), (u.2.2 1, .char), (u.2.2 3, .array .int)]) t) (va_A [(h0, .inr (4, [.null, .null, .null, .null]))] sz)) 181 66126 (va_A [(h0, .inr (4, [.null, .null, .null, .null]))] sz) := by
  refine Met.ofW (cc := cX4_init) (maxL := 1) (ret := none) (by decide) rfl ?_
  intro p e s m args below meth c s₁ B hml hv
  obtain ⟨rfl, ⟨hsz, hP, hK, hD0⟩, hE⟩ := hv
  have hx := B.exec
  have hb := B.bytes
  have hr := B.returns
  have hts : ∀ w ∈ BG, w.before _ s = true := fun w hw => atoms_spec B.pre w (List.mem_cons_of_mem _ hw)
  have hown : s.vm.findClass RX4 = some m.cls := findClass_of_methodNamed B.named
  have hlocks := B.notSynchronized
  have hin : meth.name = "<init>" := (name_of_methodNamed B.named B.method).1
  subst hsz
  have hD := hD0.self (sz := s.heap.size)
  generalize hAe : va_A [(h0, .inr (4, [.null, .null, .null, .null]))] s.heap.size = A at hD ⊢
  have hA : ∀ q : Nat, s.heap.size ≤ q → A q := fun q h => by rw [← hAe]; exact Or.inr h
  have hS : va_S A s.heap s.heap [] := va_S.rf
  have hl := lv_entry ([.ref h0]) (n := 1) (Nat.le_of_ble_eq_true rfl)
  rw [lg_entry_eq]
  generalize (lg_sl ([.ref h0]) ++ List.replicate (1 - (lg_sl ([.ref h0])).length) Slot.unset).toArray = ls at hl ⊢
  have hl : lv_has ls 1 [(0, .ref h0)] := hl
  have hP : va_P D vwCl [(h0, .inr (4, [.null, .null, .null, .null]))] s.heap := hP
  refine lv_aload_n hx hb d_X4_init_0 rfl (lv_at hl 0 rfl) ?_
  refine W.objInit hx hb hown (hts _ kw_30) (hts _ kw_oii) (hts _ kw_oic) rfl (by rw [hml]; exact hl.1) rfl d_X4_init_1 (Nat.le_of_ble_eq_true rfl) (Nat.le_of_ble_eq_true rfl) ?_
  refine W.eq (g2 := F0 m 4 ls []) rfl ?_
  refine lv_aload_n hx hb d_X4_init_4 rfl (lv_at hl 0 rfl) ?_
  refine va_new (ci := 0) (fs := [.null, .null, .null, .null, .null, .null, .null, .int 0, .int 0]) (C := RX0) (T := TX0) (N := 9) hx hb hts uw0 tyX0 tyX0_ok hown (hts _ kw_33) (hts _ kw_34) (hts _ kw_19) hK hP hD hS hA rfl (fun j hj => by rcases (show j = 0 ∨ j = 1 ∨ j = 2 ∨ j = 3 ∨ j = 4 ∨ j = 5 ∨ j = 6 ∨ j = 7 ∨ j = 8 by omega) with rfl | rfl | rfl | rfl | rfl | rfl | rfl | rfl | rfl <;> rfl) (Nat.le_of_ble_eq_true rfl) (Nat.le_of_ble_eq_true rfl) d_X4_init_5 (fun q1 H hP hD hS => ?_)
  refine W.widen (k := 1) (n := 9) (Nat.le_of_ble_eq_true rfl) (Nat.le_of_ble_eq_true rfl) ?_
  have hP : va_P D vwCl ([(h0, .inr (4, [.null, .null, .null, .null])), (q1, .inr (0, [.null, .null, .null, .null, .null, .null, .null, .int 0, .int 0]))]) H := hP
  have hD : va_D A ([(h0, .inr (4, [.null, .null, .null, .null])), (q1, .inr (0, [.null, .null, .null, .null, .null, .null, .null, .int 0, .int 0]))]) := hD
  refine lv_dup hx hb d_X4_init_8 rfl ?_
  have hP : va_P D vwCl (([(h0, .inr (4, [.null, .null, .null, .null]))]) ++ [(q1, .inr (0, [.null, .null, .null, .null, .null, .null, .null, .int 0, .int 0]))]) H := hP
  have hD : va_D A (([(h0, .inr (4, [.null, .null, .null, .null]))]) ++ [(q1, .inr (0, [.null, .null, .null, .null, .null, .null, .null, .int 0, .int 0]))]) := hD
  have hPc := va_PR hP
  have hDc := va_DR hD
  have hKc := hK.sub (tys' := []) [] rfl
  have hFc := va_freeA hD hS hA
  refine va_callv (va_runI (As := []) (rest := [.ref q1, .ref h0]) ⟨hx, hb, hml, hown, hts⟩ (k_X0_init l D q1 H.size) (cwI 0 hts (bg_sub (fun w hw => by rcases List.mem_cons.mp hw with rfl | hw; exact kw_c0; exact hw)) rfl rfl rfl (hts _ kw_19) (hts _ kw_35) (hts _ kw_36) rfl (by decide +kernel) ⟨(Nat.le_of_ble_eq_true rfl), (Nat.le_of_ble_eq_true rfl)⟩) ⟨fun a U g mk q => ⟨q.1, ⟨q.2.1.1, q.2.1.2.1, va_K.moved (u := U) (U := U.calling g mk a) (Vm.Alike.refl U.vm) q.2.1.2.2.1, q.2.1.2.2.2⟩, noE.moved (u := U) (U := U.calling g mk a) (Vm.Alike.refl U.vm) q.2.2⟩, fun U hU hW => ⟨rfl, ⟨by rw [hU], by rw [hU]; exact hPc, va_K.moved hW.alike hKc, hDc.weaken (fun _ _ _ _ => trivial)⟩, noE.moved hW.alike trivial⟩⟩ rfl rfl hl.1 rfl (lv_room (Nat.le_of_ble_eq_true rfl)) d_X4_init_9 ⟨(Nat.le_of_ble_eq_true rfl), (Nat.le_of_ble_eq_true rfl)⟩) hS (fun q _ h => hFc q h) hFc (fun u t H1 locs ht hvm hw hB hz1 hk1 hS => ?_)
  obtain ⟨r2, cI2⟩ := u
  obtain ⟨hP1, hK1, hD1⟩ := hB
  rw [ht] at hP1
  have hK1 := va_K.moved hvm.symm hK1
  obtain ⟨hP, hD⟩ := va_joinA hP hD hk1 hFc hP1 hD1
  generalize H1 = H at hP hS ⊢
  refine W.widen (k := 8) (n := 181) (Nat.le_of_ble_eq_true rfl) (Nat.le_of_ble_eq_true rfl) ?_
  have hK := hK.app hK1
  have hK : va_K D vwCl [(cI2, .int)] s := hK
  have hK := hK.sub (tys' := [(cI2, .int)]) [0] rfl
  have hP : va_P D vwCl ([(h0, .inr (4, [.null, .null, .null, .null]))] ++ coreW q1 r2 cI2) H := hP
  have hD : va_D A ([(h0, .inr (4, [.null, .null, .null, .null]))] ++ coreW q1 r2 cI2) := hD
  refine va_putF (D := D) (ci := 4) (v := .ref q1) (ty := .object "VarveClock$Core") (C := RX4) (T := TX4) (N := 4) hx hb hts uw4 tyX4 tyX4_ok nmX4 hown hK hP hD hS 0 rfl rfl 0 (by decide) (hts _ kw_178) (fun _ h9 => h9) rfl hin rfl (by decide +kernel) rfl rfl (Nat.le_of_ble_eq_true rfl) d_X4_init_12 (fun H locs hP hD hS => ?_)
  have hP : va_P D vwCl ([(h0, .inr (4, [.ref q1, .null, .null, .null]))] ++ coreW q1 r2 cI2) H := hP
  have hD : va_D A ([(h0, .inr (4, [.ref q1, .null, .null, .null]))] ++ coreW q1 r2 cI2) := hD
  refine lv_aload_n hx hb d_X4_init_15 rfl (lv_at hl 0 rfl) ?_
  refine va_new (ci := 1) (fs := [.null, .int 0, .int 0]) (C := RX1) (T := TX1) (N := 3) hx hb hts uw1 tyX1 tyX1_ok hown (hts _ kw_79) (hts _ kw_80) (hts _ kw_20) hK hP hD hS hA rfl (fun j hj => by rcases (show j = 0 ∨ j = 1 ∨ j = 2 by omega) with rfl | rfl | rfl <;> rfl) (Nat.le_of_ble_eq_true rfl) (Nat.le_of_ble_eq_true rfl) d_X4_init_16 (fun q3 H hP hD hS => ?_)
  refine W.widen (k := 9) (n := 184) (Nat.le_of_ble_eq_true rfl) (Nat.le_of_ble_eq_true rfl) ?_
  have hP : va_P D vwCl ([(h0, .inr (4, [.ref q1, .null, .null, .null]))] ++ coreW q1 r2 cI2 ++ [(q3, .inr (1, [.null, .int 0, .int 0]))]) H := hP
  have hD : va_D A ([(h0, .inr (4, [.ref q1, .null, .null, .null]))] ++ coreW q1 r2 cI2 ++ [(q3, .inr (1, [.null, .int 0, .int 0]))]) := hD
  refine lv_dup hx hb d_X4_init_19 rfl ?_
  have hP : va_P D vwCl (([(h0, .inr (4, [.ref q1, .null, .null, .null]))] ++ coreW q1 r2 cI2) ++ [(q3, .inr (1, [.null, .int 0, .int 0]))]) H := hP
  have hD : va_D A (([(h0, .inr (4, [.ref q1, .null, .null, .null]))] ++ coreW q1 r2 cI2) ++ [(q3, .inr (1, [.null, .int 0, .int 0]))]) := hD
  have hPc := va_PR hP
  have hDc := va_DR hD
  have hKc := hK.sub (tys' := []) [] rfl
  have hFc := va_freeA hD hS hA
  refine va_callv (va_runI (As := []) (rest := [.ref q3, .ref h0]) ⟨hx, hb, hml, hown, hts⟩ (k_X1_init l D q3 H.size) (cwI 0 hts (bg_sub (fun w hw => by rcases List.mem_cons.mp hw with rfl | hw; exact kw_c1; exact hw)) rfl rfl rfl (hts _ kw_20) (hts _ kw_81) (hts _ kw_82) rfl (by decide +kernel) ⟨(Nat.le_of_ble_eq_true rfl), (Nat.le_of_ble_eq_true rfl)⟩) ⟨fun a U g mk q => ⟨q.1, ⟨q.2.1.1, q.2.1.2.1, va_K.moved (u := U) (U := U.calling g mk a) (Vm.Alike.refl U.vm) q.2.1.2.2.1, q.2.1.2.2.2⟩, va_AO.moved (u := U) (U := U.calling g mk a) (Vm.Alike.refl U.vm) q.2.2⟩, fun U hU hW => ⟨rfl, ⟨by rw [hU], by rw [hU]; exact hPc, va_K.moved hW.alike hKc, hDc.weaken (fun _ _ _ _ => trivial)⟩, va_AO.moved hW.alike hE.1⟩⟩ rfl rfl hl.1 rfl (lv_room (Nat.le_of_ble_eq_true rfl)) d_X4_init_20 ⟨(Nat.le_of_ble_eq_true rfl), (Nat.le_of_ble_eq_true rfl)⟩) hS (fun q _ h => hFc q h) hFc (fun u t H1 locs ht hvm hw hB hz1 hk1 hS => ?_)
  obtain ⟨ha4, hq4, hr4, hS4, hI4⟩ := u
  obtain ⟨hP1, hK1, hD1⟩ := hB
  rw [ht] at hP1
  have hK1 := va_K.moved hvm.symm hK1
  obtain ⟨hP, hD⟩ := va_joinA hP hD hk1 hFc hP1 hD1
  generalize H1 = H at hP hS ⊢
  refine W.widen (k := 58) (n := 1276) (Nat.le_of_ble_eq_true rfl) (Nat.le_of_ble_eq_true rfl) ?_
  have hK := hK.app hK1
  have hK : va_K D vwCl [(cI2, .int), (hS4, .object RX0), (hI4, .int)] s := hK
  have ey : cI2 = hI4 := tyU hK (t := .int) (by simp) (by simp)
  subst ey
  have hK := hK.sub (tys' := [(cI2, .int), (hS4, .object RX0)]) [0, 1] rfl
  have hP : va_P D vwCl ([(h0, .inr (4, [.ref q1, .null, .null, .null]))] ++ coreW q1 r2 cI2 ++ histW q3 ha4 hq4 hr4 hS4 cI2) H := hP
  have hD : va_D A ([(h0, .inr (4, [.ref q1, .null, .null, .null]))] ++ coreW q1 r2 cI2 ++ histW q3 ha4 hq4 hr4 hS4 cI2) := hD
  refine va_putF (D := D) (ci := 4) (v := .ref q3) (ty := .object "VarveClock$History") (C := RX4) (T := TX4) (N := 4) hx hb hts uw4 tyX4 tyX4_ok nmX4 hown hK hP hD hS 0 rfl rfl 1 (by decide) (hts _ kw_179) (fun _ h9 => h9) rfl hin rfl (by decide +kernel) rfl rfl (Nat.le_of_ble_eq_true rfl) d_X4_init_23 (fun H locs hP hD hS => ?_)
  have hP : va_P D vwCl ([(h0, .inr (4, [.ref q1, .ref q3, .null, .null]))] ++ coreW q1 r2 cI2 ++ histW q3 ha4 hq4 hr4 hS4 cI2) H := hP
  have hD : va_D A ([(h0, .inr (4, [.ref q1, .ref q3, .null, .null]))] ++ coreW q1 r2 cI2 ++ histW q3 ha4 hq4 hr4 hS4 cI2) := hD
  refine lv_aload_n hx hb d_X4_init_26 rfl (lv_at hl 0 rfl) ?_
  refine va_new (ci := 3) (fs := [.null, .null, .int 0, .int 0]) (C := RX3) (T := TX3) (N := 4) hx hb hts uw3 tyX3 tyX3_ok hown (hts _ kw_99) (hts _ kw_100) (hts _ kw_21) hK hP hD hS hA rfl (fun j hj => by rcases (show j = 0 ∨ j = 1 ∨ j = 2 ∨ j = 3 by omega) with rfl | rfl | rfl | rfl <;> rfl) (Nat.le_of_ble_eq_true rfl) (Nat.le_of_ble_eq_true rfl) d_X4_init_27 (fun q5 H hP hD hS => ?_)
  refine W.widen (k := 59) (n := 1280) (Nat.le_of_ble_eq_true rfl) (Nat.le_of_ble_eq_true rfl) ?_
  have hP : va_P D vwCl ([(h0, .inr (4, [.ref q1, .ref q3, .null, .null]))] ++ coreW q1 r2 cI2 ++ histW q3 ha4 hq4 hr4 hS4 cI2 ++ [(q5, .inr (3, [.null, .null, .int 0, .int 0]))]) H := hP
  have hD : va_D A ([(h0, .inr (4, [.ref q1, .ref q3, .null, .null]))] ++ coreW q1 r2 cI2 ++ histW q3 ha4 hq4 hr4 hS4 cI2 ++ [(q5, .inr (3, [.null, .null, .int 0, .int 0]))]) := hD
  refine lv_dup hx hb d_X4_init_30 rfl ?_
  have hP : va_P D vwCl (([(h0, .inr (4, [.ref q1, .ref q3, .null, .null]))] ++ coreW q1 r2 cI2 ++ histW q3 ha4 hq4 hr4 hS4 cI2) ++ [(q5, .inr (3, [.null, .null, .int 0, .int 0]))]) H := hP
  have hD : va_D A (([(h0, .inr (4, [.ref q1, .ref q3, .null, .null]))] ++ coreW q1 r2 cI2 ++ histW q3 ha4 hq4 hr4 hS4 cI2) ++ [(q5, .inr (3, [.null, .null, .int 0, .int 0]))]) := hD
  have hPc := va_PR hP
  have hDc := va_DR hD
  have hKc := hK.sub (tys' := []) [] rfl
  have hFc := va_freeA hD hS hA
  refine va_callv (va_runI (As := []) (rest := [.ref q5, .ref h0]) ⟨hx, hb, hml, hown, hts⟩ (k_X3_init l D q5 H.size) (cwI 0 hts (bg_sub (fun w hw => by rcases List.mem_cons.mp hw with rfl | hw; exact kw_c3; exact hw)) rfl rfl rfl (hts _ kw_21) (hts _ kw_101) (hts _ kw_102) rfl (by decide +kernel) ⟨(Nat.le_of_ble_eq_true rfl), (Nat.le_of_ble_eq_true rfl)⟩) ⟨fun a U g mk q => ⟨q.1, ⟨q.2.1.1, q.2.1.2.1, va_K.moved (u := U) (U := U.calling g mk a) (Vm.Alike.refl U.vm) q.2.1.2.2.1, q.2.1.2.2.2⟩, noE.moved (u := U) (U := U.calling g mk a) (Vm.Alike.refl U.vm) q.2.2⟩, fun U hU hW => ⟨rfl, ⟨by rw [hU], by rw [hU]; exact hPc, va_K.moved hW.alike hKc, hDc.weaken (fun _ _ _ _ => trivial)⟩, noE.moved hW.alike trivial⟩⟩ rfl rfl hl.1 rfl (lv_room (Nat.le_of_ble_eq_true rfl)) d_X4_init_31 ⟨(Nat.le_of_ble_eq_true rfl), (Nat.le_of_ble_eq_true rfl)⟩) hS (fun q _ h => hFc q h) hFc (fun u t H1 locs ht hvm hw hB hz1 hk1 hS => ?_)
  obtain ⟨sa6, sb6, sr6, sC6, sI6⟩ := u
  obtain ⟨hP1, hK1, hD1⟩ := hB
  rw [ht] at hP1
  have hK1 := va_K.moved hvm.symm hK1
  obtain ⟨hP, hD⟩ := va_joinA hP hD hk1 hFc hP1 hD1
  generalize H1 = H at hP hS ⊢
  refine W.widen (k := 68) (n := 1551) (Nat.le_of_ble_eq_true rfl) (Nat.le_of_ble_eq_true rfl) ?_
  have hK := hK.app hK1
  have hK : va_K D vwCl [(cI2, .int), (hS4, .object RX0), (sC6, .char), (sI6, .int)] s := hK
  have ey : cI2 = sI6 := tyU hK (t := .int) (by simp) (by simp)
  subst ey
  have hK := hK.sub (tys' := [(cI2, .int), (hS4, .object RX0), (sC6, .char)]) [0, 1, 2] rfl
  have hP : va_P D vwCl ([(h0, .inr (4, [.ref q1, .ref q3, .null, .null]))] ++ coreW q1 r2 cI2 ++ histW q3 ha4 hq4 hr4 hS4 cI2 ++ scriptW q5 sa6 sb6 sr6 sC6 cI2) H := hP
  have hD : va_D A ([(h0, .inr (4, [.ref q1, .ref q3, .null, .null]))] ++ coreW q1 r2 cI2 ++ histW q3 ha4 hq4 hr4 hS4 cI2 ++ scriptW q5 sa6 sb6 sr6 sC6 cI2) := hD
  refine va_putF (D := D) (ci := 4) (v := .ref q5) (ty := .object "VarveClock$Script") (C := RX4) (T := TX4) (N := 4) hx hb hts uw4 tyX4 tyX4_ok nmX4 hown hK hP hD hS 0 rfl rfl 2 (by decide) (hts _ kw_180) (fun _ h9 => h9) rfl hin rfl (by decide +kernel) rfl rfl (Nat.le_of_ble_eq_true rfl) d_X4_init_34 (fun H locs hP hD hS => ?_)
  have hP : va_P D vwCl ([(h0, .inr (4, [.ref q1, .ref q3, .ref q5, .null]))] ++ coreW q1 r2 cI2 ++ histW q3 ha4 hq4 hr4 hS4 cI2 ++ scriptW q5 sa6 sb6 sr6 sC6 cI2) H := hP
  have hD : va_D A ([(h0, .inr (4, [.ref q1, .ref q3, .ref q5, .null]))] ++ coreW q1 r2 cI2 ++ histW q3 ha4 hq4 hr4 hS4 cI2 ++ scriptW q5 sa6 sb6 sr6 sC6 cI2) := hD
  refine lv_aload_n hx hb d_X4_init_37 rfl (lv_at hl 0 rfl) ?_
  refine va_new (ci := 2) (fs := [.null, .null, .null, .null, .null, .null, .null, .null, .null, .null, .null, .int 0, .int 0, .int 0, .int 0]) (C := RX2) (T := TX2) (N := 15) hx hb hts uw2 tyX2 tyX2_ok hown (hts _ kw_121) (hts _ kw_122) (hts _ kw_22) hK hP hD hS hA rfl (fun j hj => by rcases (show j = 0 ∨ j = 1 ∨ j = 2 ∨ j = 3 ∨ j = 4 ∨ j = 5 ∨ j = 6 ∨ j = 7 ∨ j = 8 ∨ j = 9 ∨ j = 10 ∨ j = 11 ∨ j = 12 ∨ j = 13 ∨ j = 14 by omega) with rfl | rfl | rfl | rfl | rfl | rfl | rfl | rfl | rfl | rfl | rfl | rfl | rfl | rfl | rfl <;> rfl) (Nat.le_of_ble_eq_true rfl) (Nat.le_of_ble_eq_true rfl) d_X4_init_38 (fun q7 H hP hD hS => ?_)
  refine W.widen (k := 69) (n := 1566) (Nat.le_of_ble_eq_true rfl) (Nat.le_of_ble_eq_true rfl) ?_
  have hP : va_P D vwCl ([(h0, .inr (4, [.ref q1, .ref q3, .ref q5, .null]))] ++ coreW q1 r2 cI2 ++ histW q3 ha4 hq4 hr4 hS4 cI2 ++ scriptW q5 sa6 sb6 sr6 sC6 cI2 ++ [(q7, .inr (2, [.null, .null, .null, .null, .null, .null, .null, .null, .null, .null, .null, .int 0, .int 0, .int 0, .int 0]))]) H := hP
  have hD : va_D A ([(h0, .inr (4, [.ref q1, .ref q3, .ref q5, .null]))] ++ coreW q1 r2 cI2 ++ histW q3 ha4 hq4 hr4 hS4 cI2 ++ scriptW q5 sa6 sb6 sr6 sC6 cI2 ++ [(q7, .inr (2, [.null, .null, .null, .null, .null, .null, .null, .null, .null, .null, .null, .int 0, .int 0, .int 0, .int 0]))]) := hD
  refine lv_dup hx hb d_X4_init_41 rfl ?_
  refine lv_aload_n hx hb d_X4_init_42 rfl (lv_at hl 0 rfl) ?_
  refine va_get (ci := 4) (v := .ref q1) (C := RX4) (T := TX4) (N := 4) hx hb hts uw4 hown hK hP 0 rfl rfl 0 (by decide) (hts _ kw_178) (fun _ h9 => h9) rfl d_X4_init_43 ?_
  have hP : va_P D vwCl (([(h0, .inr (4, [.ref q1, .ref q3, .ref q5, .null]))] ++ coreW q1 r2 cI2 ++ histW q3 ha4 hq4 hr4 hS4 cI2 ++ scriptW q5 sa6 sb6 sr6 sC6 cI2) ++ [(q7, .inr (2, [.null, .null, .null, .null, .null, .null, .null, .null, .null, .null, .null, .int 0, .int 0, .int 0, .int 0]))]) H := hP
  have hD : va_D A (([(h0, .inr (4, [.ref q1, .ref q3, .ref q5, .null]))] ++ coreW q1 r2 cI2 ++ histW q3 ha4 hq4 hr4 hS4 cI2 ++ scriptW q5 sa6 sb6 sr6 sC6 cI2) ++ [(q7, .inr (2, [.null, .null, .null, .null, .null, .null, .null, .null, .null, .null, .null, .int 0, .int 0, .int 0, .int 0]))]) := hD
  have hPc := va_PR hP
  have hDc := va_DR hD
  have hKc := hK.sub (tys' := []) [] rfl
  have hFc := va_freeA hD hS hA
  refine va_callv (va_runI (As := [.ref q1]) (rest := [.ref q7, .ref h0]) ⟨hx, hb, hml, hown, hts⟩ (k_X2_init hG l D q7 H.size q1) (cwI 1 hts (bg_sub (fun w hw => by rcases List.mem_cons.mp hw with rfl | hw; exact kw_c2; exact hw)) rfl rfl rfl (hts _ kw_22) (hts _ kw_123) (hts _ kw_124) rfl (by decide +kernel) ⟨(Nat.le_of_ble_eq_true rfl), (Nat.le_of_ble_eq_true rfl)⟩) ⟨fun a U g mk q => ⟨q.1, ⟨q.2.1.1, q.2.1.2.1, va_K.moved (u := U) (U := U.calling g mk a) (Vm.Alike.refl U.vm) q.2.1.2.2.1, q.2.1.2.2.2⟩, va_AOA.moved (u := U) (U := U.calling g mk a) (Vm.Alike.refl U.vm) q.2.2⟩, fun U hU hW => ⟨rfl, ⟨by rw [hU], by rw [hU]; exact hPc, va_K.moved hW.alike hKc, hDc.weaken (fun _ _ _ _ => trivial)⟩, va_AOA.moved hW.alike hE.2⟩⟩ rfl rfl hl.1 rfl (lv_room (Nat.le_of_ble_eq_true rfl)) d_X4_init_46 ⟨(Nat.le_of_ble_eq_true rfl), (Nat.le_of_ble_eq_true rfl)⟩) hS (fun q _ h => hFc q h) hFc (fun u t H1 locs ht hvm hw hB hz1 hk1 hS => ?_)
  obtain ⟨ka8, kf8, ky8⟩ := u
  obtain ⟨hP1, hK1, hD1⟩ := hB
  rw [ht] at hP1
  have hK1 := va_K.moved hvm.symm hK1
  have hP1 : va_P D vwCl (reckW q7 q1 (ka8 0) (ka8 1) (kf8 0) (kf8 1) (kf8 2) (ky8 0) (ky8 1)) H1 := hP1
  have hD1 : va_D _ (reckW q7 q1 (ka8 0) (ka8 1) (kf8 0) (kf8 1) (kf8 2) (ky8 0) (ky8 1)) := hD1
  have hK1 : va_K D vwCl [(ky8 0, .array .int), (ky8 1, .int)] s := hK1
  generalize ky8 0 = kG8 at hP1 hD1 hK1
  generalize ky8 1 = kI8 at hP1 hD1 hK1
  obtain ⟨hP, hD⟩ := va_joinA hP hD hk1 hFc hP1 hD1
  generalize H1 = H at hP hS ⊢
  refine W.widen (k := 181) (n := 66126) (Nat.le_of_ble_eq_true rfl) (Nat.le_of_ble_eq_true rfl) ?_
  have hK := hK.app hK1
  have hK : va_K D vwCl [(cI2, .int), (hS4, .object RX0), (sC6, .char), (kG8, .array .int), (kI8, .int)] s := hK
  have ey : cI2 = kI8 := tyU hK (t := .int) (by simp) (by simp)
  subst ey
  have hK := hK.sub (tys' := [(cI2, .int), (hS4, .object RX0), (sC6, .char), (kG8, .array .int)]) [0, 1, 2, 3] rfl
  have hP : va_P D vwCl ([(h0, .inr (4, [.ref q1, .ref q3, .ref q5, .null]))] ++ coreW q1 r2 cI2 ++ histW q3 ha4 hq4 hr4 hS4 cI2 ++ scriptW q5 sa6 sb6 sr6 sC6 cI2 ++ reckW q7 q1 (ka8 0) (ka8 1) (kf8 0) (kf8 1) (kf8 2) kG8 cI2) H := hP
  have hD : va_D A ([(h0, .inr (4, [.ref q1, .ref q3, .ref q5, .null]))] ++ coreW q1 r2 cI2 ++ histW q3 ha4 hq4 hr4 hS4 cI2 ++ scriptW q5 sa6 sb6 sr6 sC6 cI2 ++ reckW q7 q1 (ka8 0) (ka8 1) (kf8 0) (kf8 1) (kf8 2) kG8 cI2) := hD
  refine va_putF (D := D) (ci := 4) (v := .ref q7) (ty := .object "VarveClock$Reckoning") (C := RX4) (T := TX4) (N := 4) hx hb hts uw4 tyX4 tyX4_ok nmX4 hown hK hP hD hS 0 rfl rfl 3 (by decide) (hts _ kw_181) (fun _ h9 => h9) rfl hin rfl (by decide +kernel) rfl rfl (Nat.le_of_ble_eq_true rfl) d_X4_init_49 (fun H locs hP hD hS => ?_)
  have hP : va_P D vwCl ([(h0, .inr (4, [.ref q1, .ref q3, .ref q5, .ref q7]))] ++ coreW q1 r2 cI2 ++ histW q3 ha4 hq4 hr4 hS4 cI2 ++ scriptW q5 sa6 sb6 sr6 sC6 cI2 ++ reckW q7 q1 (ka8 0) (ka8 1) (kf8 0) (kf8 1) (kf8 2) kG8 cI2) H := hP
  have hD : va_D A ([(h0, .inr (4, [.ref q1, .ref q3, .ref q5, .ref q7]))] ++ coreW q1 r2 cI2 ++ histW q3 ha4 hq4 hr4 hS4 cI2 ++ scriptW q5 sa6 sb6 sr6 sC6 cI2 ++ reckW q7 q1 (ka8 0) (ka8 1) (kf8 0) (kf8 1) (kf8 2) kG8 cI2) := hD
  obtain ⟨u9, eu9⟩ : ∃ u : (Nat → Nat) × (Nat → Nat → Nat) × (Nat → ClassId), u = ((fun i : Nat => [q1, q3, q5, q7, ha4, sa6, sb6, (ka8 0), (ka8 1)].getD i 0), (fun i : Nat => [r2, hq4, (hr4 0), (hr4 1), (hr4 2), (hr4 3), (hr4 4), (hr4 5), sr6, (kf8 0), (kf8 1), (kf8 2)].getD i r2), (fun i : Nat => [cI2, sC6, hS4, kG8].getD i cI2)) := ⟨_, rfl⟩
  have hP9 : va_P D vwCl (clockW h0 u9.1 u9.2.1 u9.2.2) H := by rw [eu9]; exact hP
  have hD9 : va_D A (clockW h0 u9.1 u9.2.1 u9.2.2) := by rw [eu9]; exact hD
  have hK9 : va_K D vwCl ([(u9.2.2 0, .int), (u9.2.2 2, .object RX0), (u9.2.2 1, .char), (u9.2.2 3, .array .int)]) s := by rw [eu9]; exact hK
  exact W.vret hx hb hr (fun t ht hW => ⟨⟨u9, rfl, trivial, by rw [ht]; exact hP9, va_K.moved hW.alike hK9, hD9⟩, hS.F ht⟩) hS.2.2 d_X4_init_52
