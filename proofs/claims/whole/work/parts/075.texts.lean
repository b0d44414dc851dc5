/-! THE TEXTS: what the machine's own String methods answer on the five constants -/
set_option maxRecDepth 100000 in
theorem sw_len_c : Jvm.Cond.code yJ0_length_8abf5 cJ0_length_8abf5 1 (some .int) ∈ BG := bg_of 361 rfl rfl
set_option maxRecDepth 100000 in
theorem sw_len_i : Jvm.Cond.instanceMethod yJ0_length_8abf5 ∈ BG := bg_of 359 rfl rfl
set_option maxRecDepth 100000 in
theorem sw_len_l : Jvm.Cond.selects RJ0 yJ0_length_8abf5 yJ0_length_8abf5 ∈ BG := bg_of 360 rfl rfl
set_option maxRecDepth 100000 in
theorem sw_cod_c : Jvm.Cond.code yJ0_coder_7d493 cJ0_coder_7d493 1 (some .byte) ∈ BG := bg_of 365 rfl rfl
set_option maxRecDepth 100000 in
theorem sw_cod_i : Jvm.Cond.instanceMethod yJ0_coder_7d493 ∈ BG := bg_of 363 rfl rfl
set_option maxRecDepth 100000 in
theorem sw_cod_l : Jvm.Cond.selects RJ0 yJ0_coder_7d493 yJ0_coder_7d493 ∈ BG := bg_of 364 rfl rfl
set_option maxRecDepth 100000 in
theorem sw_chr_c : Jvm.Cond.code yJ0_charAt_5068e cJ0_charAt_5068e 2 (some .char) ∈ BG := bg_of 371 rfl rfl
set_option maxRecDepth 100000 in
theorem sw_chr_i : Jvm.Cond.instanceMethod yJ0_charAt_5068e ∈ BG := bg_of 369 rfl rfl
set_option maxRecDepth 100000 in
theorem sw_chr_l : Jvm.Cond.selects RJ0 yJ0_charAt_5068e yJ0_charAt_5068e ∈ BG := bg_of 370 rfl rfl
set_option maxRecDepth 100000 in
theorem sw_lat_c : Jvm.Cond.code yJ0_isLatin1_aae02 cJ0_isLatin1_aae02 1 (some .boolean) ∈ BG := bg_of 375 rfl rfl
set_option maxRecDepth 100000 in
theorem sw_lat_i : Jvm.Cond.instanceMethod yJ0_isLatin1_aae02 ∈ BG := bg_of 373 rfl rfl
set_option maxRecDepth 100000 in
theorem sw_lat_l : Jvm.Cond.selects RJ0 yJ0_isLatin1_aae02 yJ0_isLatin1_aae02 ∈ BG := bg_of 374 rfl rfl
set_option maxRecDepth 100000 in
theorem sw_lch_c : Jvm.Cond.code yJ1_charAt_3b067 cJ1_charAt_3b067 2 (some .char) ∈ BG := bg_of 378 rfl rfl
set_option maxRecDepth 100000 in
theorem sw_lch_s : Jvm.Cond.static yJ1_charAt_3b067 ∈ BG := bg_of 377 rfl rfl
set_option maxRecDepth 100000 in
theorem sw_chk_c : Jvm.Cond.code yJ0_checkIndex_df160 cJ0_checkIndex_df160 2 none ∈ BG := bg_of 381 rfl rfl
set_option maxRecDepth 100000 in
theorem sw_chk_s : Jvm.Cond.static yJ0_checkIndex_df160 ∈ BG := bg_of 380 rfl rfl
set_option maxRecDepth 100000 in
theorem sw_pck_c : Jvm.Cond.code yJ3_checkIndex_8e157 cJ3_checkIndex_8e157 3 (some .int) ∈ BG := bg_of 386 rfl rfl
set_option maxRecDepth 100000 in
theorem sw_pck_s : Jvm.Cond.static yJ3_checkIndex_8e157 ∈ BG := bg_of 385 rfl rfl
set_option maxRecDepth 100000 in
theorem sw_ini0 : Jvm.Cond.initialized RJ0 ∈ BG := bg_of 59 rfl rfl
set_option maxRecDepth 100000 in
theorem sw_ini1 : Jvm.Cond.initialized RJ1 ∈ BG := bg_of 60 rfl rfl
set_option maxRecDepth 100000 in
theorem sw_ini3 : Jvm.Cond.initialized RJ3 ∈ BG := bg_of 61 rfl rfl
set_option maxRecDepth 100000 in
theorem sw_len_m : Jvm.Cond.methodLink RX3 90 yJ0_length_8abf5 ∈ BG := bg_of 358 rfl rfl
set_option maxRecDepth 100000 in
theorem sw_chr_m : Jvm.Cond.methodLink RX3 95 yJ0_charAt_5068e ∈ BG := bg_of 368 rfl rfl
set_option maxRecDepth 100000 in
theorem sw_cod_m : Jvm.Cond.methodLink RJ0 335 yJ0_coder_7d493 ∈ BG := bg_of 362 rfl rfl
set_option maxRecDepth 100000 in
theorem sw_lat_m : Jvm.Cond.methodLink RJ0 492 yJ0_isLatin1_aae02 ∈ BG := bg_of 372 rfl rfl
set_option maxRecDepth 100000 in
theorem sw_lch_m : Jvm.Cond.methodLink RJ0 495 yJ1_charAt_3b067 ∈ BG := bg_of 376 rfl rfl
set_option maxRecDepth 100000 in
theorem sw_chk_m : Jvm.Cond.methodLink RJ1 9 yJ0_checkIndex_df160 ∈ BG := bg_of 379 rfl rfl
set_option maxRecDepth 100000 in
theorem sw_pck_m : Jvm.Cond.methodLink RJ0 1059 yJ3_checkIndex_8e157 ∈ BG := bg_of 384 rfl rfl
set_option maxRecDepth 100000 in
theorem sw_fcs : Jvm.Cond.fieldLink RJ0 38 "java/lang/String" "COMPACT_STRINGS" "Z" ∈ BG := bg_of 366 rfl rfl
set_option maxRecDepth 100000 in
theorem sw_fco : Jvm.Cond.fieldLink RJ0 15 "java/lang/String" "coder" "B" ∈ BG := bg_of 947 rfl rfl
set_option maxRecDepth 100000 in
theorem sw_fva : Jvm.Cond.fieldLink RJ0 9 "java/lang/String" "value" "[B" ∈ BG := bg_of 946 rfl rfl
set_option maxRecDepth 100000 in
theorem sw_fsi : Jvm.Cond.fieldLink RJ0 1053 "jdk/internal/util/Preconditions" "SIOOBE_FORMATTER" "Ljava/util/function/BiFunction;" ∈ BG := bg_of 382 rfl rfl

def rj (k : Nat) : Room := { frames := k, cells := 0, slots := 0, locals := 30 * k }
def lenS : List Nat := [6, 6, 6, 4, 4]
def bytS : List (List Int32) := [[108, 97, 121, 101, 114, 32], [102, 97, 105, 110, 116, 32], [116, 104, 105, 99, 107, 32], [103, 97, 112, 32], [97, 115, 104, 32]]
def stx (n : Nat) : String := match n with
  | 0 => "layer "
  | 1 => "faint "
  | 2 => "thick "
  | 3 => "gap "
  | _ => "ash "
def SWd (ad : Nat → Int → Nat) (adV : Nat → Nat) (cy : Nat → ClassId) (D : va_G) (A0 : Nat → Prop) (U : State) : Prop :=
  va_K D vwCl (tysW cy) U ∧ (va_Nw (.methodLinkNest RX2 173 yX4_isWithin RX4) U ∧ va_Nw (.methodLinkNest RX3 64 yX4_isWithin RX4) U) ∧ (∀ n : Nat, n < 5 → vk_R RX3 (sidx n) (stx n) (ad 40 n) U) ∧ vk_S 5 lenS bytS (fun i => ad 40 i) adV A0 U U.heap ∧ va_Z RJ0 "COMPACT_STRINGS" "Z" (.int 1) A0 U U.heap ∧ va_Zq RJ3 "SIOOBE_FORMATTER" "Ljava/util/function/BiFunction;" A0 U U.heap
theorem SWd_b {ad : Nat → Int → Nat} {adV : Nat → Nat} {cy : Nat → ClassId} {D : va_G} {A0 : Nat → Prop} (U : State) (g : JFrame) (mk : MethodId) (a : Array Value) (h : SWd ad adV cy D A0 U) : SWd ad adV cy D A0 (U.calling g mk a) := by
  obtain ⟨h1, h2, h3, h4, h5, h6⟩ := h
  have hv : (U.calling g mk a).vm = U.vm := rfl
  have ha : U.vm.Alike (U.calling g mk a).vm := Vm.Alike.refl U.vm
  exact ⟨va_K.moved ha h1, ⟨va_Nw.same rfl hv.symm h2.1, va_Nw.same rfl hv.symm h2.2⟩, fun n hn => vk_R.same hv (h3 n hn), vk_S.moved ha h4, va_Z.moved ha h5, va_Zq.moved ha h6⟩
theorem SWd_H {ad : Nat → Int → Nat} {adV : Nat → Nat} {cy : Nat → ClassId} {D : va_G} {A0 : Nat → Prop} {s U : State} {H : Heap} {locs : List Loc} (h : SWd ad adV cy D A0 s) (hS : va_S A0 s.heap H locs) (hU : U.heap = H) (hW : s.WarmedH U.vm) : SWd ad adV cy D A0 U := by
  obtain ⟨h1, h2, h3, h4, h5, h6⟩ := h
  have ha : s.vm.Alike U.vm := hW.alike
  refine ⟨va_K.moved ha h1, ⟨va_Nw.warmM hW h2.1, va_Nw.warmM hW h2.2⟩, fun n hn => vk_R.warm hW (h3 n hn), ?_, ?_, ?_⟩
  · rw [hU]
    exact (vk_S.moved ha h4).kept hS.2.1
  · rw [hU]
    exact (va_Z.moved ha h5).kept hS.2.1
  · rw [hU]
    exact (va_Zq.moved ha h6).kept hS.2.1
theorem j_coder (l : Launch) {ad : Nat → Int → Nat} {adV : Nat → Nat} {cy : Nat → ClassId} {D : va_G} {A0 : Nat → Prop} {σ : Sto} (hσ : okS σ σ) {n : Nat} (hn : n < 5) : Met l yJ0_coder_7d493 (.code yJ0_coder_7d493 cJ0_coder_7d493 1 (some .byte) :: BG) (rj 0) (va_Pc [.ref (ad 40 n)] (WdW ad cy D (SWd ad adV cy D A0) σ)) (QmW ad cy D (SWd ad adV cy D A0) A0 σ (fun r σ' => r = some (.inl 0) ∧ σ' = σ)) 0 0 A0 := by
  refine Met.ofW (cc := cJ0_coder_7d493) (maxL := 1) (ret := (some .byte)) (by decide) rfl ?_
  intro p e s m args below meth c s₁ B hml hv
  obtain ⟨rfl, hP, hSW⟩ := hv
  have hx := B.exec
  have hb := B.bytes
  have hr := B.returns
  have hts : ∀ w ∈ BG, w.before _ s = true := fun w hw => atoms_spec B.pre w (List.mem_cons_of_mem _ hw)
  have hown := findClass_of_methodNamed B.named
  have hlocks := B.notSynchronized
  have hS : va_S A0 s.heap s.heap [] := va_S.rf
  have hl := lv_entry ([.ref (ad 40 n)]) (n := 1) (Nat.le_of_ble_eq_true rfl)
  rw [lg_entry_eq]
  generalize (lg_sl ([.ref (ad 40 n)]) ++ List.replicate (1 - (lg_sl ([.ref (ad 40 n)])).length) Slot.unset).toArray = ls at hl ⊢
  obtain ⟨hK, hN, hT, hE, hZ, hF⟩ := id hSW
  refine va_gets hx hb hZ hS hown (hts _ sw_fcs) (fun x h => h) (by decide +kernel : decode cJ0_coder_7d493 0 = .ok (.getstatic 38, 3)) ?_
  refine lv_if_eq (tgt := 13) hx hb (by decide +kernel : decode cJ0_coder_7d493 3 = .ok (.ifCond .eq 10, 3)) (by decide) (fun q => absurd q (by decide)) (fun _ => ?_)
  refine lv_aload_n hx hb (by decide +kernel : decode cJ0_coder_7d493 6 = .ok (.aload_n 0, 1)) rfl (lv_at hl 0 rfl) ?_
  refine vk_getf hx hb (hE.1 n hn).2.1 hS hown (hts _ sw_fco) (fun x h => h) (by decide +kernel : decode cJ0_coder_7d493 7 = .ok (.getfield 15, 3)) ?_
  refine lv_goto (tgt := 14) hx hb (by decide +kernel : decode cJ0_coder_7d493 10 = .ok (.goto 4, 3)) (by decide) ?_
  exact W.zret hx hb hr rfl (fun t ht hW => ⟨⟨some (.inl 0), σ, rfl, ⟨rfl, rfl⟩, hσ, fun v hv => by cases hv <;> exact trivial, by rw [ht]; exact hP, SWd_H hSW hS ht hW⟩, hS.F ht⟩) hS.2.2 (by decide +kernel : decode cJ0_coder_7d493 14 = .ok (.ireturn, 1)) hlocks
theorem j_latin (l : Launch) {ad : Nat → Int → Nat} {adV : Nat → Nat} {cy : Nat → ClassId} {D : va_G} {A0 : Nat → Prop} {σ : Sto} (hσ : okS σ σ) {n : Nat} (hn : n < 5) : Met l yJ0_isLatin1_aae02 (.code yJ0_isLatin1_aae02 cJ0_isLatin1_aae02 1 (some .boolean) :: BG) (rj 0) (va_Pc [.ref (ad 40 n)] (WdW ad cy D (SWd ad adV cy D A0) σ)) (QmW ad cy D (SWd ad adV cy D A0) A0 σ (fun r σ' => r = some (.inl 1) ∧ σ' = σ)) 0 0 A0 := by
  refine Met.ofW (cc := cJ0_isLatin1_aae02) (maxL := 1) (ret := (some .boolean)) (by decide) rfl ?_
  intro p e s m args below meth c s₁ B hml hv
  obtain ⟨rfl, hP, hSW⟩ := hv
  have hx := B.exec
  have hb := B.bytes
  have hr := B.returns
  have hts : ∀ w ∈ BG, w.before _ s = true := fun w hw => atoms_spec B.pre w (List.mem_cons_of_mem _ hw)
  have hown := findClass_of_methodNamed B.named
  have hlocks := B.notSynchronized
  have hS : va_S A0 s.heap s.heap [] := va_S.rf
  have hl := lv_entry ([.ref (ad 40 n)]) (n := 1) (Nat.le_of_ble_eq_true rfl)
  rw [lg_entry_eq]
  generalize (lg_sl ([.ref (ad 40 n)]) ++ List.replicate (1 - (lg_sl ([.ref (ad 40 n)])).length) Slot.unset).toArray = ls at hl ⊢
  obtain ⟨hK, hN, hT, hE, hZ, hF⟩ := id hSW
  refine va_gets hx hb hZ hS hown (hts _ sw_fcs) (fun x h => h) (by decide +kernel : decode cJ0_isLatin1_aae02 0 = .ok (.getstatic 38, 3)) ?_
  refine lv_if_eq (tgt := 17) hx hb (by decide +kernel : decode cJ0_isLatin1_aae02 3 = .ok (.ifCond .eq 14, 3)) (by decide) (fun q => absurd q (by decide)) (fun _ => ?_)
  refine lv_aload_n hx hb (by decide +kernel : decode cJ0_isLatin1_aae02 6 = .ok (.aload_n 0, 1)) rfl (lv_at hl 0 rfl) ?_
  refine vk_getf hx hb (hE.1 n hn).2.1 hS hown (hts _ sw_fco) (fun x h => h) (by decide +kernel : decode cJ0_isLatin1_aae02 7 = .ok (.getfield 15, 3)) ?_
  refine lv_if_ne (tgt := 17) hx hb (by decide +kernel : decode cJ0_isLatin1_aae02 10 = .ok (.ifCond .ne 7, 3)) (by decide) (fun q => absurd rfl q) (fun _ => ?_)
  refine lv_iconst (v := 1) hx hb (by decide +kernel : decode cJ0_isLatin1_aae02 13 = .ok (.iconst 1, 1)) (by decide) ?_
  refine lv_goto (tgt := 18) hx hb (by decide +kernel : decode cJ0_isLatin1_aae02 14 = .ok (.goto 4, 3)) (by decide) ?_
  exact W.zret hx hb hr rfl (fun t ht hW => ⟨⟨some (.inl 1), σ, rfl, ⟨rfl, rfl⟩, hσ, fun v hv => by cases hv <;> exact trivial, by rw [ht]; exact hP, SWd_H hSW hS ht hW⟩, hS.F ht⟩) hS.2.2 (by decide +kernel : decode cJ0_isLatin1_aae02 18 = .ok (.ireturn, 1)) hlocks
theorem j_length (l : Launch) {ad : Nat → Int → Nat} {adV : Nat → Nat} {cy : Nat → ClassId} {D : va_G} {A0 : Nat → Prop} {σ : Sto} (hσ : okS σ σ) {n : Nat} (hn : n < 5) : Met l yJ0_length_8abf5 (.code yJ0_length_8abf5 cJ0_length_8abf5 1 (some .int) :: BG) (rj 1) (va_Pc [.ref (ad 40 n)] (WdW ad cy D (SWd ad adV cy D A0) σ)) (QmW ad cy D (SWd ad adV cy D A0) A0 σ (fun r σ' => r = some (.inl (lenS.getD n 0 : Nat)) ∧ σ' = σ)) 0 0 A0 := by
  refine Met.ofW (cc := cJ0_length_8abf5) (maxL := 1) (ret := (some .int)) (by decide) rfl ?_
  intro p e s m args below meth c s₁ B hml hv
  obtain ⟨rfl, hP, hSW⟩ := hv
  have hx := B.exec
  have hb := B.bytes
  have hr := B.returns
  have hts : ∀ w ∈ BG, w.before _ s = true := fun w hw => atoms_spec B.pre w (List.mem_cons_of_mem _ hw)
  have hown := findClass_of_methodNamed B.named
  have hlocks := B.notSynchronized
  have hS : va_S A0 s.heap s.heap [] := va_S.rf
  have hl := lv_entry ([.ref (ad 40 n)]) (n := 1) (Nat.le_of_ble_eq_true rfl)
  rw [lg_entry_eq]
  generalize (lg_sl ([.ref (ad 40 n)]) ++ List.replicate (1 - (lg_sl ([.ref (ad 40 n)])).length) Slot.unset).toArray = ls at hl ⊢
  obtain ⟨hK, hN, hT, hE, hZ, hF⟩ := id hSW
  refine lv_aload_n hx hb (by decide +kernel : decode cJ0_length_8abf5 0 = .ok (.aload_n 0, 1)) rfl (lv_at hl 0 rfl) ?_
  refine vk_getf hx hb (hE.1 n hn).2.2.1 hS hown (hts _ sw_fva) (fun x h => h) (by decide +kernel : decode cJ0_length_8abf5 1 = .ok (.getfield 9, 3)) ?_
  refine va_tlen hx hb (hE.1 n hn).2.2.2 hS rfl (by decide +kernel : decode cJ0_length_8abf5 4 = .ok (.arraylength, 1)) ?_
  refine lv_aload_n hx hb (by decide +kernel : decode cJ0_length_8abf5 5 = .ok (.aload_n 0, 1)) rfl (lv_at hl 0 rfl) ?_
  refine am_call (va_runV (C := RJ0) (b := ad 40 n) (As := []) (rest := [.int (Int32.ofNat (lenS.getD n 0))]) ⟨hx, hb, hml, hown, hts⟩ (j_coder l hσ hn) ⟨callB_of 0 hts (bg_sub (fun w hw => by rcases List.mem_cons.mp hw with rfl | hw; exact sw_cod_c; exact hw)) rfl rfl rfl (hts _ sw_ini0) (hts _ sw_cod_m) (by decide +kernel) ⟨Nat.le_of_ble_eq_true rfl, Nat.le_of_ble_eq_true rfl⟩, hts _ sw_cod_i, hts _ sw_cod_l⟩ ⟨blind SWd_b, vk_recv hE hn hS, fun U hU hW => ⟨rfl, by rw [hU]; exact hP, SWd_H hSW hS hU hW⟩⟩ rfl rfl hl.1 rfl (lv_room (Nat.le_of_ble_eq_true rfl)) (by decide +kernel : decode cJ0_length_8abf5 6 = .ok (.invokevirtual 335, 3)) ⟨Nat.le_of_ble_eq_true rfl, Nat.le_of_ble_eq_true rfl⟩) hS (fun r σ' H1 locs1 hq hok hr1 hP1 hS1 => ?_)
  have hr0 := hq.1
  subst hr0
  rw [hq.2] at hP1
  clear hP hS
  have hP := hP1
  have hS := hS1
  have hsh : Int32.ofNat (lenS.getD n 0) >>> ((0 : Int32) &&& 31) = Int32.ofInt (lenS.getD n 0 : Nat) := by
    rw [Int32.ofInt_eq_ofNat]
    exact sc_shr0 (by rcases (show n = 0 ∨ n = 1 ∨ n = 2 ∨ n = 3 ∨ n = 4 by omega) with rfl | rfl | rfl | rfl | rfl <;> decide)
  refine lv_ishr hx hb (by decide +kernel : decode cJ0_length_8abf5 9 = .ok (.ishr, 1)) ?_
  have hsh2 := hsh
  refine W.eq (g2 := F0 m 10 ls [.int (Int32.ofInt (lenS.getD n 0 : Nat))]) (by rw [← hsh2]; rfl) ?_
  exact W.iret hx hb hr (fun t ht hW => ⟨⟨some (.inl (lenS.getD n 0 : Nat)), σ, rfl, ⟨rfl, rfl⟩, hσ, fun v hv => by cases hv <;> exact trivial, by rw [ht]; exact hP, SWd_H hSW hS ht hW⟩, hS.F ht⟩) hS.2.2 (by decide +kernel : decode cJ0_length_8abf5 10 = .ok (.ireturn, 1)) hlocks
theorem j_pchecka (l : Launch) {ad : Nat → Int → Nat} {adV : Nat → Nat} {cy : Nat → ClassId} {D : va_G} {A0 : Nat → Prop} {σ : Sto} (hσ : okS σ σ) {i k : Nat} (hik : i < k) (hk : k < 1000) : Met l yJ3_checkIndex_8e157 (.code yJ3_checkIndex_8e157 cJ3_checkIndex_8e157 3 (some .int) :: BG) (rj 0) (va_Pc [.int (nI i), .int (nI k), .null] (WdW ad cy D (SWd ad adV cy D A0) σ)) (QmW ad cy D (SWd ad adV cy D A0) A0 σ (fun r σ' => r = some (.inl i) ∧ σ' = σ)) 0 0 A0 := by
  refine Met.ofW (cc := cJ3_checkIndex_8e157) (maxL := 3) (ret := (some .int)) (by decide) rfl ?_
  intro p e s m args below meth c s₁ B hml hv
  obtain ⟨rfl, hP, hSW⟩ := hv
  have hx := B.exec
  have hb := B.bytes
  have hr := B.returns
  have hts : ∀ w ∈ BG, w.before _ s = true := fun w hw => atoms_spec B.pre w (List.mem_cons_of_mem _ hw)
  have hown := findClass_of_methodNamed B.named
  have hlocks := B.notSynchronized
  have hS : va_S A0 s.heap s.heap [] := va_S.rf
  have hl := lv_entry ([.int (nI i), .int (nI k), .null]) (n := 3) (Nat.le_of_ble_eq_true rfl)
  rw [lg_entry_eq]
  generalize (lg_sl ([.int (nI i), .int (nI k), .null]) ++ List.replicate (3 - (lg_sl ([.int (nI i), .int (nI k), .null])).length) Slot.unset).toArray = ls at hl ⊢
  obtain ⟨hK, hN, hT, hE, hZ, hF⟩ := id hSW
  refine lv_iload_n hx hb (by decide +kernel : decode cJ3_checkIndex_8e157 0 = .ok (.iload_n 0, 1)) rfl (lv_at hl 0 rfl) ?_
  refine lv_if_lt (tgt := 9) hx hb (by decide +kernel : decode cJ3_checkIndex_8e157 1 = .ok (.ifCond .lt 8, 3)) (by decide) (fun q => absurd q (nI_pos (by omega))) (fun _ => ?_)
  refine lv_iload_n hx hb (by decide +kernel : decode cJ3_checkIndex_8e157 4 = .ok (.iload_n 0, 1)) rfl (lv_at hl 0 rfl) ?_
  refine lv_iload_n hx hb (by decide +kernel : decode cJ3_checkIndex_8e157 5 = .ok (.iload_n 1, 1)) rfl (lv_at hl 1 rfl) ?_
  refine lv_icmp_lt (tgt := 16) hx hb (by decide +kernel : decode cJ3_checkIndex_8e157 6 = .ok (.if_icmp .lt 10, 3)) (by decide) (fun _ => ?_) (fun q => absurd (nI_lt hik (by omega)) q)
  refine lv_iload_n hx hb (by decide +kernel : decode cJ3_checkIndex_8e157 16 = .ok (.iload_n 0, 1)) rfl (lv_at hl 0 rfl) ?_
  refine W.eq (g2 := F0 m 17 ls [.int (Int32.ofInt i)]) (by rw [Int32.ofInt_eq_ofNat]; rfl) ?_
  exact W.iret hx hb hr (fun t ht hW => ⟨⟨some (.inl i), σ, rfl, ⟨rfl, rfl⟩, hσ, fun v hv => by cases hv <;> exact trivial, by rw [ht]; exact hP, SWd_H hSW hS ht hW⟩, hS.F ht⟩) hS.2.2 (by decide +kernel : decode cJ3_checkIndex_8e157 17 = .ok (.ireturn, 1)) hlocks
theorem j_pcheckb (l : Launch) {ad : Nat → Int → Nat} {adV : Nat → Nat} {cy : Nat → ClassId} {D : va_G} {A0 : Nat → Prop} {σ : Sto} (hσ : okS σ σ) {f : Nat} {i k : Nat} (hik : i < k) (hk : k < 1000) : Met l yJ3_checkIndex_8e157 (.code yJ3_checkIndex_8e157 cJ3_checkIndex_8e157 3 (some .int) :: BG) (rj 0) (va_Pc [.int (nI i), .int (nI k), .ref f] (WdW ad cy D (SWd ad adV cy D A0) σ)) (QmW ad cy D (SWd ad adV cy D A0) A0 σ (fun r σ' => r = some (.inl i) ∧ σ' = σ)) 0 0 A0 := by
  refine Met.ofW (cc := cJ3_checkIndex_8e157) (maxL := 3) (ret := (some .int)) (by decide) rfl ?_
  intro p e s m args below meth c s₁ B hml hv
  obtain ⟨rfl, hP, hSW⟩ := hv
  have hx := B.exec
  have hb := B.bytes
  have hr := B.returns
  have hts : ∀ w ∈ BG, w.before _ s = true := fun w hw => atoms_spec B.pre w (List.mem_cons_of_mem _ hw)
  have hown := findClass_of_methodNamed B.named
  have hlocks := B.notSynchronized
  have hS : va_S A0 s.heap s.heap [] := va_S.rf
  have hl := lv_entry ([.int (nI i), .int (nI k), .ref f]) (n := 3) (Nat.le_of_ble_eq_true rfl)
  rw [lg_entry_eq]
  generalize (lg_sl ([.int (nI i), .int (nI k), .ref f]) ++ List.replicate (3 - (lg_sl ([.int (nI i), .int (nI k), .ref f])).length) Slot.unset).toArray = ls at hl ⊢
  obtain ⟨hK, hN, hT, hE, hZ, hF⟩ := id hSW
  refine lv_iload_n hx hb (by decide +kernel : decode cJ3_checkIndex_8e157 0 = .ok (.iload_n 0, 1)) rfl (lv_at hl 0 rfl) ?_
  refine lv_if_lt (tgt := 9) hx hb (by decide +kernel : decode cJ3_checkIndex_8e157 1 = .ok (.ifCond .lt 8, 3)) (by decide) (fun q => absurd q (nI_pos (by omega))) (fun _ => ?_)
  refine lv_iload_n hx hb (by decide +kernel : decode cJ3_checkIndex_8e157 4 = .ok (.iload_n 0, 1)) rfl (lv_at hl 0 rfl) ?_
  refine lv_iload_n hx hb (by decide +kernel : decode cJ3_checkIndex_8e157 5 = .ok (.iload_n 1, 1)) rfl (lv_at hl 1 rfl) ?_
  refine lv_icmp_lt (tgt := 16) hx hb (by decide +kernel : decode cJ3_checkIndex_8e157 6 = .ok (.if_icmp .lt 10, 3)) (by decide) (fun _ => ?_) (fun q => absurd (nI_lt hik (by omega)) q)
  refine lv_iload_n hx hb (by decide +kernel : decode cJ3_checkIndex_8e157 16 = .ok (.iload_n 0, 1)) rfl (lv_at hl 0 rfl) ?_
  refine W.eq (g2 := F0 m 17 ls [.int (Int32.ofInt i)]) (by rw [Int32.ofInt_eq_ofNat]; rfl) ?_
  exact W.iret hx hb hr (fun t ht hW => ⟨⟨some (.inl i), σ, rfl, ⟨rfl, rfl⟩, hσ, fun v hv => by cases hv <;> exact trivial, by rw [ht]; exact hP, SWd_H hSW hS ht hW⟩, hS.F ht⟩) hS.2.2 (by decide +kernel : decode cJ3_checkIndex_8e157 17 = .ok (.ireturn, 1)) hlocks
theorem j_pcheck (l : Launch) {ad : Nat → Int → Nat} {adV : Nat → Nat} {cy : Nat → ClassId} {D : va_G} {A0 : Nat → Prop} {σ : Sto} (hσ : okS σ σ) {i k : Nat} (hik : i < k) (hk : k < 1000) {f : Value} (hf : f = .null ∨ ∃ q, f = .ref q) : Met l yJ3_checkIndex_8e157 (.code yJ3_checkIndex_8e157 cJ3_checkIndex_8e157 3 (some .int) :: BG) (rj 0) (va_Pc [.int (nI i), .int (nI k), f] (WdW ad cy D (SWd ad adV cy D A0) σ)) (QmW ad cy D (SWd ad adV cy D A0) A0 σ (fun r σ' => r = some (.inl i) ∧ σ' = σ)) 0 0 A0 := by
  rcases hf with rfl | ⟨q, rfl⟩
  · exact j_pchecka l hσ hik hk
  · exact j_pcheckb l hσ hik hk
theorem j_check (l : Launch) {ad : Nat → Int → Nat} {adV : Nat → Nat} {cy : Nat → ClassId} {D : va_G} {A0 : Nat → Prop} {σ : Sto} (hσ : okS σ σ) {i k : Nat} (hik : i < k) (hk : k < 1000) : Met l yJ0_checkIndex_df160 (.code yJ0_checkIndex_df160 cJ0_checkIndex_df160 2 none :: BG) (rj 1) (va_Pc [.int (nI i), .int (nI k)] (WdW ad cy D (SWd ad adV cy D A0) σ)) (QmW ad cy D (SWd ad adV cy D A0) A0 σ (fun r σ' => r = none ∧ σ' = σ)) 0 0 A0 := by
  refine Met.ofW (cc := cJ0_checkIndex_df160) (maxL := 2) (ret := none) (by decide) rfl ?_
  intro p e s m args below meth c s₁ B hml hv
  obtain ⟨rfl, hP, hSW⟩ := hv
  have hx := B.exec
  have hb := B.bytes
  have hr := B.returns
  have hts : ∀ w ∈ BG, w.before _ s = true := fun w hw => atoms_spec B.pre w (List.mem_cons_of_mem _ hw)
  have hown := findClass_of_methodNamed B.named
  have hlocks := B.notSynchronized
  have hS : va_S A0 s.heap s.heap [] := va_S.rf
  have hl := lv_entry ([.int (nI i), .int (nI k)]) (n := 2) (Nat.le_of_ble_eq_true rfl)
  rw [lg_entry_eq]
  generalize (lg_sl ([.int (nI i), .int (nI k)]) ++ List.replicate (2 - (lg_sl ([.int (nI i), .int (nI k)])).length) Slot.unset).toArray = ls at hl ⊢
  obtain ⟨hK, hN, hT, hE, hZ, hF⟩ := id hSW
  refine lv_iload_n hx hb (by decide +kernel : decode cJ0_checkIndex_df160 0 = .ok (.iload_n 0, 1)) rfl (lv_at hl 0 rfl) ?_
  refine lv_iload_n hx hb (by decide +kernel : decode cJ0_checkIndex_df160 1 = .ok (.iload_n 1, 1)) rfl (lv_at hl 1 rfl) ?_
  have hfz : ∃ f : Value, (f = .null ∨ ∃ q, f = .ref q) ∧ va_Z RJ3 "SIOOBE_FORMATTER" "Ljava/util/function/BiFunction;" f A0 s s.heap := by
    rcases hF with h | ⟨q, h⟩
    · exact ⟨_, Or.inl rfl, h⟩
    · exact ⟨_, Or.inr ⟨q, rfl⟩, h⟩
  obtain ⟨f, hf1, hf2⟩ := hfz
  refine va_gets (v := f) hx hb hf2 hS hown (hts _ sw_fsi) (fun x h => h) (by decide +kernel : decode cJ0_checkIndex_df160 2 = .ok (.getstatic 1053, 3)) ?_
  refine am_call (va_runS (As := [.int (nI i), .int (nI k), f]) (rest := []) ⟨hx, hb, hml, hown, hts⟩ (j_pcheck l hσ hik hk hf1) ⟨callB_of 3 hts (bg_sub (fun w hw => by rcases List.mem_cons.mp hw with rfl | hw; exact sw_pck_c; exact hw)) rfl rfl rfl (hts _ sw_ini3) (hts _ sw_pck_m) (by decide +kernel) ⟨Nat.le_of_ble_eq_true rfl, Nat.le_of_ble_eq_true rfl⟩, hts _ sw_pck_s⟩ ⟨blind SWd_b, fun U hU hW => ⟨rfl, by rw [hU]; exact hP, SWd_H hSW hS hU hW⟩⟩ rfl rfl hl.1 rfl (lv_room (Nat.le_of_ble_eq_true rfl)) (by decide +kernel : decode cJ0_checkIndex_df160 5 = .ok (.invokestatic 1059, 3)) ⟨Nat.le_of_ble_eq_true rfl, Nat.le_of_ble_eq_true rfl⟩) hS (fun r σ' H1 locs1 hq hok hr1 hP1 hS1 => ?_)
  have hr0 := hq.1
  subst hr0
  rw [hq.2] at hP1
  clear hP hS
  have hP := hP1
  have hS := hS1
  refine lv_pop hx hb (by decide +kernel : decode cJ0_checkIndex_df160 8 = .ok (.pop, 1)) rfl ?_
  exact W.vret hx hb hr (fun t ht hW => ⟨⟨none, σ, rfl, ⟨rfl, rfl⟩, hσ, fun v hv => by cases hv <;> exact trivial, by rw [ht]; exact hP, SWd_H hSW hS ht hW⟩, hS.F ht⟩) hS.2.2 (by decide +kernel : decode cJ0_checkIndex_df160 9 = .ok (.return_, 1)) hlocks
def chS (n i : Nat) : Int := (((bytS.getD n []).getD i 0).toInt)
theorem chS_ok : ∀ n, n < 5 → ∀ i, i < lenS.getD n 0 → ((bytS.getD n []).getD i 0 &&& 255) = Int32.ofInt (chS n i) ∧ ((Int32.ofInt (chS n i)).toUInt32 % 65536).toInt32 = Int32.ofInt (chS n i) ∧ narrow .char (.int (Int32.ofInt (chS n i))) = .int (Int32.ofInt (chS n i)) := by decide +kernel
theorem lenS_ok : ∀ n, n < 5 → lenS.getD n 0 < 1000 := by decide +kernel
theorem j_lchar (l : Launch) {ad : Nat → Int → Nat} {adV : Nat → Nat} {cy : Nat → ClassId} {D : va_G} {A0 : Nat → Prop} {σ : Sto} (hσ : okS σ σ) {n i : Nat} (hn : n < 5) (hi : i < lenS.getD n 0) : Met l yJ1_charAt_3b067 (.code yJ1_charAt_3b067 cJ1_charAt_3b067 2 (some .char) :: BG) (rj 2) (va_Pc [.ref (adV n), .int (nI i)] (WdW ad cy D (SWd ad adV cy D A0) σ)) (QmW ad cy D (SWd ad adV cy D A0) A0 σ (fun r σ' => r = some (.inl (chS n i)) ∧ σ' = σ)) 0 0 A0 := by
  refine Met.ofW (cc := cJ1_charAt_3b067) (maxL := 2) (ret := (some .char)) (by decide) rfl ?_
  intro p e s m args below meth c s₁ B hml hv
  obtain ⟨rfl, hP, hSW⟩ := hv
  have hx := B.exec
  have hb := B.bytes
  have hr := B.returns
  have hts : ∀ w ∈ BG, w.before _ s = true := fun w hw => atoms_spec B.pre w (List.mem_cons_of_mem _ hw)
  have hown := findClass_of_methodNamed B.named
  have hlocks := B.notSynchronized
  have hS : va_S A0 s.heap s.heap [] := va_S.rf
  have hl := lv_entry ([.ref (adV n), .int (nI i)]) (n := 2) (Nat.le_of_ble_eq_true rfl)
  rw [lg_entry_eq]
  generalize (lg_sl ([.ref (adV n), .int (nI i)]) ++ List.replicate (2 - (lg_sl ([.ref (adV n), .int (nI i)])).length) Slot.unset).toArray = ls at hl ⊢
  obtain ⟨hK, hN, hT, hE, hZ, hF⟩ := id hSW
  obtain ⟨e1, e2, e3⟩ := chS_ok n hn i hi
  refine lv_iload_n hx hb (by decide +kernel : decode cJ1_charAt_3b067 0 = .ok (.iload_n 1, 1)) rfl (lv_at hl 1 rfl) ?_
  refine lv_aload_n hx hb (by decide +kernel : decode cJ1_charAt_3b067 1 = .ok (.aload_n 0, 1)) rfl (lv_at hl 0 rfl) ?_
  refine va_tlen hx hb (hE.1 n hn).2.2.2 hS rfl (by decide +kernel : decode cJ1_charAt_3b067 2 = .ok (.arraylength, 1)) ?_
  refine am_call (va_runS (As := [.int (nI i), .int (nI (lenS.getD n 0))]) (rest := []) ⟨hx, hb, hml, hown, hts⟩ (j_check l hσ hi (lenS_ok n hn)) ⟨callB_of 2 hts (bg_sub (fun w hw => by rcases List.mem_cons.mp hw with rfl | hw; exact sw_chk_c; exact hw)) rfl rfl rfl (hts _ sw_ini0) (hts _ sw_chk_m) (by decide +kernel) ⟨Nat.le_of_ble_eq_true rfl, Nat.le_of_ble_eq_true rfl⟩, hts _ sw_chk_s⟩ ⟨blind SWd_b, fun U hU hW => ⟨rfl, by rw [hU]; exact hP, SWd_H hSW hS hU hW⟩⟩ rfl rfl hl.1 rfl (lv_room (Nat.le_of_ble_eq_true rfl)) (by decide +kernel : decode cJ1_charAt_3b067 3 = .ok (.invokestatic 9, 3)) ⟨Nat.le_of_ble_eq_true rfl, Nat.le_of_ble_eq_true rfl⟩) hS (fun r σ' H1 locs1 hq hok hr1 hP1 hS1 => ?_)
  have hr0 := hq.1
  subst hr0
  rw [hq.2] at hP1
  clear hP hS
  have hP := hP1
  have hS := hS1
  refine lv_aload_n hx hb (by decide +kernel : decode cJ1_charAt_3b067 6 = .ok (.aload_n 0, 1)) rfl (lv_at hl 0 rfl) ?_
  refine lv_iload_n hx hb (by decide +kernel : decode cJ1_charAt_3b067 7 = .ok (.iload_n 1, 1)) rfl (lv_at hl 1 rfl) ?_
  refine va_tb (v := .int ((bytS.getD n []).getD i 0)) hx hb (hE.1 n hn).2.2.2 hS (vp_in_nI hi (by have := lenS_ok n hn; omega)) (by rw [nI_clamp (by have := lenS_ok n hn; omega)]) (by decide +kernel : decode cJ1_charAt_3b067 8 = .ok (.baload, 1)) ?_
  refine lv_sipush (v := 255) hx hb (by decide +kernel : decode cJ1_charAt_3b067 9 = .ok (.sipush 255, 3)) (by decide) ?_
  refine lv_iand hx hb (by decide +kernel : decode cJ1_charAt_3b067 12 = .ok (.iand, 1)) ?_
  rw [e1]
  refine lv_i2c (v := Int32.ofInt (chS n i)) hx hb (by decide +kernel : decode cJ1_charAt_3b067 13 = .ok (.i2c, 1)) e2 ?_
  exact W.zret hx hb hr e3 (fun t ht hW => ⟨⟨some (.inl (chS n i)), σ, rfl, ⟨rfl, rfl⟩, hσ, fun v hv => by cases hv <;> exact trivial, by rw [ht]; exact hP, SWd_H hSW hS ht hW⟩, hS.F ht⟩) hS.2.2 (by decide +kernel : decode cJ1_charAt_3b067 14 = .ok (.ireturn, 1)) hlocks
theorem j_charAt (l : Launch) {ad : Nat → Int → Nat} {adV : Nat → Nat} {cy : Nat → ClassId} {D : va_G} {A0 : Nat → Prop} {σ : Sto} (hσ : okS σ σ) {n i : Nat} (hn : n < 5) (hi : i < lenS.getD n 0) : Met l yJ0_charAt_5068e (.code yJ0_charAt_5068e cJ0_charAt_5068e 2 (some .char) :: BG) (rj 3) (va_Pc [.ref (ad 40 n), .int (nI i)] (WdW ad cy D (SWd ad adV cy D A0) σ)) (QmW ad cy D (SWd ad adV cy D A0) A0 σ (fun r σ' => r = some (.inl (chS n i)) ∧ σ' = σ)) 0 0 A0 := by
  refine Met.ofW (cc := cJ0_charAt_5068e) (maxL := 2) (ret := (some .char)) (by decide) rfl ?_
  intro p e s m args below meth c s₁ B hml hv
  obtain ⟨rfl, hP, hSW⟩ := hv
  have hx := B.exec
  have hb := B.bytes
  have hr := B.returns
  have hts : ∀ w ∈ BG, w.before _ s = true := fun w hw => atoms_spec B.pre w (List.mem_cons_of_mem _ hw)
  have hown := findClass_of_methodNamed B.named
  have hlocks := B.notSynchronized
  have hS : va_S A0 s.heap s.heap [] := va_S.rf
  have hl := lv_entry ([.ref (ad 40 n), .int (nI i)]) (n := 2) (Nat.le_of_ble_eq_true rfl)
  rw [lg_entry_eq]
  generalize (lg_sl ([.ref (ad 40 n), .int (nI i)]) ++ List.replicate (2 - (lg_sl ([.ref (ad 40 n), .int (nI i)])).length) Slot.unset).toArray = ls at hl ⊢
  obtain ⟨hK, hN, hT, hE, hZ, hF⟩ := id hSW
  obtain ⟨e1, e2, e3⟩ := chS_ok n hn i hi
  refine lv_aload_n hx hb (by decide +kernel : decode cJ0_charAt_5068e 0 = .ok (.aload_n 0, 1)) rfl (lv_at hl 0 rfl) ?_
  refine am_call (va_runV (C := RJ0) (b := ad 40 n) (As := []) (rest := []) ⟨hx, hb, hml, hown, hts⟩ (j_latin l hσ hn) ⟨callB_of 0 hts (bg_sub (fun w hw => by rcases List.mem_cons.mp hw with rfl | hw; exact sw_lat_c; exact hw)) rfl rfl rfl (hts _ sw_ini0) (hts _ sw_lat_m) (by decide +kernel) ⟨Nat.le_of_ble_eq_true rfl, Nat.le_of_ble_eq_true rfl⟩, hts _ sw_lat_i, hts _ sw_lat_l⟩ ⟨blind SWd_b, vk_recv hE hn hS, fun U hU hW => ⟨rfl, by rw [hU]; exact hP, SWd_H hSW hS hU hW⟩⟩ rfl rfl hl.1 rfl (lv_room (Nat.le_of_ble_eq_true rfl)) (by decide +kernel : decode cJ0_charAt_5068e 1 = .ok (.invokevirtual 492, 3)) ⟨Nat.le_of_ble_eq_true rfl, Nat.le_of_ble_eq_true rfl⟩) hS (fun r σ' H1 locs1 hq hok hr1 hP1 hS1 => ?_)
  have hr0 := hq.1
  subst hr0
  rw [hq.2] at hP1
  clear hP hS
  have hP := hP1
  have hS := hS1
  refine lv_if_eq (tgt := 16) hx hb (by decide +kernel : decode cJ0_charAt_5068e 4 = .ok (.ifCond .eq 12, 3)) (by decide) (fun q => absurd q (by decide)) (fun _ => ?_)
  refine lv_aload_n hx hb (by decide +kernel : decode cJ0_charAt_5068e 7 = .ok (.aload_n 0, 1)) rfl (lv_at hl 0 rfl) ?_
  refine vk_getf hx hb (hE.1 n hn).2.2.1 hS hown (hts _ sw_fva) (fun x h => h) (by decide +kernel : decode cJ0_charAt_5068e 8 = .ok (.getfield 9, 3)) ?_
  refine lv_iload_n hx hb (by decide +kernel : decode cJ0_charAt_5068e 11 = .ok (.iload_n 1, 1)) rfl (lv_at hl 1 rfl) ?_
  refine am_call (va_runS (As := [.ref (adV n), .int (nI i)]) (rest := []) ⟨hx, hb, hml, hown, hts⟩ (j_lchar l hσ hn hi) ⟨callB_of 2 hts (bg_sub (fun w hw => by rcases List.mem_cons.mp hw with rfl | hw; exact sw_lch_c; exact hw)) rfl rfl rfl (hts _ sw_ini1) (hts _ sw_lch_m) (by decide +kernel) ⟨Nat.le_of_ble_eq_true rfl, Nat.le_of_ble_eq_true rfl⟩, hts _ sw_lch_s⟩ ⟨blind SWd_b, fun U hU hW => ⟨rfl, by rw [hU]; exact hP, SWd_H hSW hS hU hW⟩⟩ rfl rfl hl.1 rfl (lv_room (Nat.le_of_ble_eq_true rfl)) (by decide +kernel : decode cJ0_charAt_5068e 12 = .ok (.invokestatic 495, 3)) ⟨Nat.le_of_ble_eq_true rfl, Nat.le_of_ble_eq_true rfl⟩) hS (fun r σ' H1 locs1 hq hok hr1 hP1 hS1 => ?_)
  have hr0 := hq.1
  subst hr0
  rw [hq.2] at hP1
  clear hP hS
  have hP := hP1
  have hS := hS1
  exact W.zret hx hb hr e3 (fun t ht hW => ⟨⟨some (.inl (chS n i)), σ, rfl, ⟨rfl, rfl⟩, hσ, fun v hv => by cases hv <;> exact trivial, by rw [ht]; exact hP, SWd_H hSW hS ht hW⟩, hS.F ht⟩) hS.2.2 (by decide +kernel : decode cJ0_charAt_5068e 15 = .ok (.ireturn, 1)) hlocks
