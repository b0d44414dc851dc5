/-! THE CONSTRUCTORS: worlds of cells -/
theorem getL {α : Type} {a b : List α} {i : Nat} {x : α} (h : a[i]? = some x) : (a ++ b)[i]? = some x := by
  rw [List.getElem?_append_left (List.getElem?_eq_some_iff.mp h).1]
  exact h
theorem getR {α : Type} {a b : List α} {i : Nat} {x : α} (h : b[i]? = some x) : (a ++ b)[a.length + i]? = some x := by
  rw [List.getElem?_append_right (by omega), Nat.add_sub_cancel_left]
  exact h
theorem va_PR {D : va_G} {cl : List vw_C} {wr wc : va_W} {H : Heap} (h : va_P D cl (wr ++ wc) H) : va_P D cl wc H := fun k q hk => h _ q (getR hk)
theorem va_PL {D : va_G} {cl : List vw_C} {wr wc : va_W} {H : Heap} (h : va_P D cl (wr ++ wc) H) : va_P D cl wr H := fun k q hk => h _ q (getL hk)
theorem va_DL {A : Nat → Prop} {wr wc : va_W} (h : va_D A (wr ++ wc)) : va_D A wr := ⟨fun i j p q hi hj e => h.1 i j p q (getL hi) (getL hj) e, fun k q hk => h.2 k q (getL hk)⟩
theorem va_DR {A : Nat → Prop} {wr wc : va_W} (h : va_D A (wr ++ wc)) : va_D A wc := ⟨fun i j p q hi hj e => by have := h.1 _ _ p q (getR (a := wr) hi) (getR hj) e; omega, fun k q hk => h.2 _ q (getR hk)⟩
theorem va_freeA {A0 : Nat → Prop} {wr wc : va_W} {H0 H : Heap} {locs : List Loc} (hD : va_D A0 (wr ++ wc)) (hS : va_S A0 H0 H locs) (hA : ∀ q, H0.size ≤ q → A0 q) : ∀ q, va_A wc H.size q → A0 q := by
  intro q h
  rcases h with ⟨k, e, h⟩ | h
  · exact hD.2 _ (q, e) (getR h)
  · exact hA q (Nat.le_trans hS.1 h)
theorem va_joinA {A0 : Nat → Prop} {D : va_G} {cl : List vw_C} {wr wc w1 : va_W} {H H1 : Heap} (hP : va_P D cl (wr ++ wc) H) (hD : va_D A0 (wr ++ wc)) (hk : ∀ q : Nat, q < H.size → ¬ va_A wc H.size q → H1[q]? = H[q]?) (hF : ∀ q, va_A wc H.size q → A0 q) (hP1 : va_P D cl w1 H1) (hD1 : va_D (va_A wc H.size) w1) : va_P D cl (wr ++ w1) H1 ∧ va_D A0 (wr ++ w1) := by
  have apart : ∀ (k : Nat) (q : Nat × va_E), wr[k]? = some q → q.1 < H.size ∧ ¬ va_A wc H.size q.1 := by
    intro k q hq
    have hl := (hP k q (getL hq)).lt
    refine ⟨hl, fun h => ?_⟩
    rcases h with ⟨k2, e, h⟩ | h
    · have := hD.1 k _ q (q.1, e) (getL hq) (getR h) rfl
      have := (List.getElem?_eq_some_iff.mp hq).1
      omega
    · omega
  refine ⟨va_P.app (fun k q hq => ?_) hP1, va_D.app (va_DL hD) (hD1.weaken (fun k q _ h => hF q.1 h)) (fun i j x y hx hy hxy => ?_)⟩
  · obtain ⟨g1, g2⟩ := apart k q hq
    exact (hP k q (getL hq)).kept (hk q.1 g1 g2)
  · exact (apart i x hx).2 (by rw [hxy]; exact hD1.2 j y hy)
theorem tyU {D : va_G} {cl : List vw_C} {tys : List (ClassId × FieldType)} {U : State} {t : FieldType} {c1 c2 : ClassId} (h : va_K D cl tys U) (h1 : (c1, t) ∈ tys) (h2 : (c2, t) ∈ tys) : c1 = c2 := by
  obtain ⟨i, hi⟩ := List.getElem?_of_mem h1
  obtain ⟨j, hj⟩ := List.getElem?_of_mem h2
  have a := (h.2 i _ hi).2
  have b := (h.2 j _ hj).2
  cases t with
  | object C =>
    obtain ⟨_, _, _, _, _, a4⟩ := a
    obtain ⟨_, _, _, _, _, b4⟩ := b
    rw [a4] at b4
    injection b4
  | _ =>
    have e := Eq.trans (Eq.symm a) b
    injection e
theorem vpi {i : Int32} {n : Nat} (h : (decide (i < 0) || decide (n ≤ i.toNatClampNeg)) = false) : vp_in i n := fun q => by
  rw [Bool.or_eq_false_iff] at h
  rcases q with q | q
  · exact absurd q (of_decide_eq_false h.1)
  · exact absurd q (of_decide_eq_false h.2)
def PreK (D : va_G) (sz : Nat) (ws : va_W) (U : State) : Prop := U.heap.size = sz ∧ va_P D vwCl ws U.heap ∧ va_K D vwCl [] U ∧ va_D (fun _ => True) ws
def PostK (D : va_G) (A : Nat → Prop) (ws : va_W) (tys : List (ClassId × FieldType)) (t : State) : Prop := va_P D vwCl ws t.heap ∧ va_K D vwCl tys t ∧ va_D A ws
def noE (_ : State) : Prop := True
theorem noE.moved {u U : State} (_ : u.vm.Alike U.vm) (_ : noE u) : noE U := trivial
abbrev setG : Int → Int := fun j => if j = 0 then 4 else if j = 1 then 5 else if j = 2 then 3 else if j = 3 then 2 else 0
theorem setG_eq : upd (upd (upd (upd (fun _ => 0) (0 : Int32).toNatClampNeg 4) (1 : Int32).toNatClampNeg 5) (2 : Int32).toNatClampNeg 3) (3 : Int32).toNatClampNeg 2 = rowV setG := by
  have e0 : (0 : Int32).toNatClampNeg = 0 := by decide
  have e1 : (1 : Int32).toNatClampNeg = 1 := by decide
  have e2 : (2 : Int32).toNatClampNeg = 2 := by decide
  have e3 : (3 : Int32).toNatClampNeg = 3 := by decide
  rw [e0, e1, e2, e3]
  funext a
  unfold upd rowV setG
  dsimp only
  by_cases h3 : a = 3
  · subst h3; rfl
  · by_cases h2 : a = 2
    · subst h2; rfl
    · by_cases h1 : a = 1
      · subst h1; rfl
      · by_cases h0 : a = 0
        · subst h0; rfl
        · rw [if_neg h3, if_neg h2, if_neg h1, if_neg h0, if_neg (by omega), if_neg (by omega), if_neg (by omega), if_neg (by omega)]
          rfl
abbrev coreW (h0 : Nat) (r : Nat → Nat) (cI : ClassId) : va_W := [(h0, .inr (0, [.ref (r 0), .ref (r 1), .ref (r 2), .ref (r 3), .ref (r 4), .ref (r 5), .ref (r 6), .int 0, .int 0])), (r 0, .inl (cI, 50, .inl (fun _ => 0))), (r 1, .inl (cI, 50, .inl (fun _ => 0))), (r 2, .inl (cI, 50, .inl (fun _ => 0))), (r 3, .inl (cI, 6, .inl (fun _ => 0))), (r 4, .inl (cI, 6, .inl (fun _ => 0))), (r 5, .inl (cI, 6, .inl (fun _ => 0))), (r 6, .inl (cI, 4, .inl (rowV setG)))]
set_option maxRecDepth 100000 in
theorem kw_38 : Jvm.Cond.methodLink RX0 3 objectInit ∈ BG := bg_of 38 rfl rfl
set_option maxRecDepth 100000 in
theorem kw_39 : Jvm.Cond.fieldLink RX0 9 "VarveClock$Core" "thickness" "[I" ∈ BG := bg_of 39 rfl rfl
set_option maxRecDepth 100000 in
theorem kw_40 : Jvm.Cond.fieldLink RX0 15 "VarveClock$Core" "kind" "[I" ∈ BG := bg_of 40 rfl rfl
set_option maxRecDepth 100000 in
theorem kw_42 : Jvm.Cond.fieldLink RX0 18 "VarveClock$Core" "missing" "[I" ∈ BG := bg_of 42 rfl rfl
set_option maxRecDepth 100000 in
theorem kw_44 : Jvm.Cond.fieldLink RX0 21 "VarveClock$Core" "place" "[I" ∈ BG := bg_of 44 rfl rfl
set_option maxRecDepth 100000 in
theorem kw_47 : Jvm.Cond.fieldLink RX0 24 "VarveClock$Core" "ashAge" "[I" ∈ BG := bg_of 47 rfl rfl
set_option maxRecDepth 100000 in
theorem kw_49 : Jvm.Cond.fieldLink RX0 27 "VarveClock$Core" "uncertainty" "[I" ∈ BG := bg_of 49 rfl rfl
set_option maxRecDepth 100000 in
theorem kw_50 : Jvm.Cond.fieldLink RX0 30 "VarveClock$Core" "setting" "[I" ∈ BG := bg_of 50 rfl rfl
set_option maxRecDepth 100000 in
theorem kw_53 : Jvm.Cond.fieldLink RX0 33 "VarveClock$Core" "layers" "I" ∈ BG := bg_of 53 rfl rfl
set_option maxRecDepth 100000 in
theorem kw_56 : Jvm.Cond.fieldLink RX0 37 "VarveClock$Core" "ashes" "I" ∈ BG := bg_of 56 rfl rfl
set_option maxRecDepth 100000 in
theorem kw_oii : Jvm.Cond.instanceMethod objectInit ∈ BG := bg_of 31 rfl rfl
set_option maxRecDepth 100000 in
theorem kw_oic : Jvm.Cond.code objectInit ⟨#[0xb1]⟩ 1 none ∈ BG := bg_of 32 rfl rfl
set_option maxRecDepth 100000 in
theorem kw_arrI : Jvm.Cond.arrayClass .int ∈ BG := bg_of 78 rfl rfl
set_option maxRecDepth 100000 in
theorem kw_arrC : Jvm.Cond.arrayClass .char ∈ BG := bg_of 120 rfl rfl
theorem d_X0_init_0 : decode cX0_init 0 = .ok (.aload_n 0, 1) := by decide +kernel
theorem d_X0_init_1 : decode cX0_init 1 = .ok (.invokespecial 3, 3) := by decide +kernel
theorem d_X0_init_4 : decode cX0_init 4 = .ok (.aload_n 0, 1) := by decide +kernel
theorem d_X0_init_5 : decode cX0_init 5 = .ok (.bipush 50, 2) := by decide +kernel
theorem d_X0_init_7 : decode cX0_init 7 = .ok (.newarray .int, 2) := by decide +kernel
theorem d_X0_init_9 : decode cX0_init 9 = .ok (.putfield 9, 3) := by decide +kernel
theorem d_X0_init_12 : decode cX0_init 12 = .ok (.aload_n 0, 1) := by decide +kernel
theorem d_X0_init_13 : decode cX0_init 13 = .ok (.bipush 50, 2) := by decide +kernel
theorem d_X0_init_15 : decode cX0_init 15 = .ok (.newarray .int, 2) := by decide +kernel
theorem d_X0_init_17 : decode cX0_init 17 = .ok (.putfield 15, 3) := by decide +kernel
theorem d_X0_init_20 : decode cX0_init 20 = .ok (.aload_n 0, 1) := by decide +kernel
theorem d_X0_init_21 : decode cX0_init 21 = .ok (.bipush 50, 2) := by decide +kernel
theorem d_X0_init_23 : decode cX0_init 23 = .ok (.newarray .int, 2) := by decide +kernel
theorem d_X0_init_25 : decode cX0_init 25 = .ok (.putfield 18, 3) := by decide +kernel
theorem d_X0_init_28 : decode cX0_init 28 = .ok (.aload_n 0, 1) := by decide +kernel
theorem d_X0_init_29 : decode cX0_init 29 = .ok (.bipush 6, 2) := by decide +kernel
theorem d_X0_init_31 : decode cX0_init 31 = .ok (.newarray .int, 2) := by decide +kernel
theorem d_X0_init_33 : decode cX0_init 33 = .ok (.putfield 21, 3) := by decide +kernel
theorem d_X0_init_36 : decode cX0_init 36 = .ok (.aload_n 0, 1) := by decide +kernel
theorem d_X0_init_37 : decode cX0_init 37 = .ok (.bipush 6, 2) := by decide +kernel
theorem d_X0_init_39 : decode cX0_init 39 = .ok (.newarray .int, 2) := by decide +kernel
theorem d_X0_init_41 : decode cX0_init 41 = .ok (.putfield 24, 3) := by decide +kernel
theorem d_X0_init_44 : decode cX0_init 44 = .ok (.aload_n 0, 1) := by decide +kernel
theorem d_X0_init_45 : decode cX0_init 45 = .ok (.bipush 6, 2) := by decide +kernel
theorem d_X0_init_47 : decode cX0_init 47 = .ok (.newarray .int, 2) := by decide +kernel
theorem d_X0_init_49 : decode cX0_init 49 = .ok (.putfield 27, 3) := by decide +kernel
theorem d_X0_init_52 : decode cX0_init 52 = .ok (.aload_n 0, 1) := by decide +kernel
theorem d_X0_init_53 : decode cX0_init 53 = .ok (.iconst 4, 1) := by decide +kernel
theorem d_X0_init_54 : decode cX0_init 54 = .ok (.newarray .int, 2) := by decide +kernel
theorem d_X0_init_56 : decode cX0_init 56 = .ok (.putfield 30, 3) := by decide +kernel
theorem d_X0_init_59 : decode cX0_init 59 = .ok (.aload_n 0, 1) := by decide +kernel
theorem d_X0_init_60 : decode cX0_init 60 = .ok (.getfield 30, 3) := by decide +kernel
theorem d_X0_init_63 : decode cX0_init 63 = .ok (.iconst 0, 1) := by decide +kernel
theorem d_X0_init_64 : decode cX0_init 64 = .ok (.iconst 4, 1) := by decide +kernel
theorem d_X0_init_65 : decode cX0_init 65 = .ok (.iastore, 1) := by decide +kernel
theorem d_X0_init_66 : decode cX0_init 66 = .ok (.aload_n 0, 1) := by decide +kernel
theorem d_X0_init_67 : decode cX0_init 67 = .ok (.getfield 30, 3) := by decide +kernel
theorem d_X0_init_70 : decode cX0_init 70 = .ok (.iconst 1, 1) := by decide +kernel
theorem d_X0_init_71 : decode cX0_init 71 = .ok (.iconst 5, 1) := by decide +kernel
theorem d_X0_init_72 : decode cX0_init 72 = .ok (.iastore, 1) := by decide +kernel
theorem d_X0_init_73 : decode cX0_init 73 = .ok (.aload_n 0, 1) := by decide +kernel
theorem d_X0_init_74 : decode cX0_init 74 = .ok (.getfield 30, 3) := by decide +kernel
theorem d_X0_init_77 : decode cX0_init 77 = .ok (.iconst 2, 1) := by decide +kernel
theorem d_X0_init_78 : decode cX0_init 78 = .ok (.iconst 3, 1) := by decide +kernel
theorem d_X0_init_79 : decode cX0_init 79 = .ok (.iastore, 1) := by decide +kernel
theorem d_X0_init_80 : decode cX0_init 80 = .ok (.aload_n 0, 1) := by decide +kernel
theorem d_X0_init_81 : decode cX0_init 81 = .ok (.getfield 30, 3) := by decide +kernel
theorem d_X0_init_84 : decode cX0_init 84 = .ok (.iconst 3, 1) := by decide +kernel
theorem d_X0_init_85 : decode cX0_init 85 = .ok (.iconst 2, 1) := by decide +kernel
theorem d_X0_init_86 : decode cX0_init 86 = .ok (.iastore, 1) := by decide +kernel
theorem d_X0_init_87 : decode cX0_init 87 = .ok (.aload_n 0, 1) := by decide +kernel
theorem d_X0_init_88 : decode cX0_init 88 = .ok (.iconst 0, 1) := by decide +kernel
theorem d_X0_init_89 : decode cX0_init 89 = .ok (.putfield 33, 3) := by decide +kernel
theorem d_X0_init_92 : decode cX0_init 92 = .ok (.aload_n 0, 1) := by decide +kernel
theorem d_X0_init_93 : decode cX0_init 93 = .ok (.iconst 0, 1) := by decide +kernel
theorem d_X0_init_94 : decode cX0_init 94 = .ok (.putfield 37, 3) := by decide +kernel
theorem d_X0_init_97 : decode cX0_init 97 = .ok (.return_, 1) := by decide +kernel
set_option maxHeartbeats 8000000 in
set_option maxRecDepth 100000 in
theorem k_X0_init (l : Launch) (D : va_G) (h0 : Nat) (sz : Nat) : Met l yX0_init (.code yX0_init cX0_init 1 none :: BG) ({ frames := 1, cells := 7, slots := 172, locals := 12 }) (va_Pc [.ref h0] (fun U => PreK D sz [(h0, .inr (0, [.null, .null, .null, .null, .null, .null, .null, .int 0, .int 0]))] U ∧ noE U)) (va_Qv (fun _ : (Nat → Nat) × ClassId => True) (fun u t => PostK D (va_A [(h0, .inr (0, [.null, .null, .null, .null, .null, .null, .null, .int 0, .int 0]))] sz) (coreW h0 u.1 u.2) ([(u.2, .int)]) t) (va_A [(h0, .inr (0, [.null, .null, .null, .null, .null, .null, .null, .int 0, .int 0]))] sz)) 7 172 (va_A [(h0, .inr (0, [.null, .null, .null, .null, .null, .null, .null, .int 0, .int 0]))] sz) := by
  refine Met.ofW (cc := cX0_init) (maxL := 1) (ret := none) (by decide) rfl ?_
  intro p e s m args below meth c s₁ B hml hv
  obtain ⟨rfl, ⟨hsz, hP, hK, hD0⟩, hE⟩ := hv
  have hx := B.exec
  have hb := B.bytes
  have hr := B.returns
  have hts : ∀ w ∈ BG, w.before _ s = true := fun w hw => atoms_spec B.pre w (List.mem_cons_of_mem _ hw)
  have hown : s.vm.findClass RX0 = some m.cls := findClass_of_methodNamed B.named
  have hlocks := B.notSynchronized
  have hin : meth.name = "<init>" := (name_of_methodNamed B.named B.method).1
  subst hsz
  have hD := hD0.self (sz := s.heap.size)
  generalize hAe : va_A [(h0, .inr (0, [.null, .null, .null, .null, .null, .null, .null, .int 0, .int 0]))] s.heap.size = A at hD ⊢
  have hA : ∀ q : Nat, s.heap.size ≤ q → A q := fun q h => by rw [← hAe]; exact Or.inr h
  have hS : va_S A s.heap s.heap [] := va_S.rf
  have hl := lv_entry ([.ref h0]) (n := 1) (Nat.le_of_ble_eq_true rfl)
  rw [lg_entry_eq]
  generalize (lg_sl ([.ref h0]) ++ List.replicate (1 - (lg_sl ([.ref h0])).length) Slot.unset).toArray = ls at hl ⊢
  have hl : lv_has ls 1 [(0, .ref h0)] := hl
  have hP : va_P D vwCl [(h0, .inr (0, [.null, .null, .null, .null, .null, .null, .null, .int 0, .int 0]))] s.heap := hP
  refine lv_aload_n hx hb d_X0_init_0 rfl (lv_at hl 0 rfl) ?_
  refine W.objInit hx hb hown (hts _ kw_38) (hts _ kw_oii) (hts _ kw_oic) rfl (by rw [hml]; exact hl.1) rfl d_X0_init_1 (Nat.le_of_ble_eq_true rfl) (Nat.le_of_ble_eq_true rfl) ?_
  refine W.eq (g2 := F0 m 4 ls []) rfl ?_
  refine lv_aload_n hx hb d_X0_init_4 rfl (lv_at hl 0 rfl) ?_
  refine lv_bipush (v := 50) hx hb d_X0_init_5 (by decide) ?_
  refine va_newa (atype := .int) (ty := .int) (N' := 50) (a0 := (50, .inl (fun _ => 0))) hx hb (hts _ kw_arrI) rfl hK hP hD hS hA (fun cA => rfl) (by decide) (by decide) (Nat.le_of_ble_eq_true rfl) (Nat.le_of_ble_eq_true rfl) (Nat.le_of_ble_eq_true rfl) d_X0_init_7 (fun q1 cI H hK hP hD hS => ?_)
  refine W.widen (k := 1) (n := 50) (Nat.le_of_ble_eq_true rfl) (Nat.le_of_ble_eq_true rfl) ?_
  have hK : va_K D vwCl [(cI, .int)] s := hK
  have hP : va_P D vwCl ([(h0, .inr (0, [.null, .null, .null, .null, .null, .null, .null, .int 0, .int 0])), (q1, .inl (cI, 50, .inl (fun _ => 0)))]) H := hP
  have hD : va_D A ([(h0, .inr (0, [.null, .null, .null, .null, .null, .null, .null, .int 0, .int 0])), (q1, .inl (cI, 50, .inl (fun _ => 0)))]) := hD
  refine va_putF (D := D) (ci := 0) (v := .ref q1) (ty := .array .int) (C := RX0) (T := TX0) (N := 9) hx hb hts uw0 tyX0 tyX0_ok nmX0 hown hK hP hD hS 0 rfl rfl 0 (by decide) (hts _ kw_39) (fun _ h9 => h9) rfl hin rfl (by decide +kernel) rfl rfl (Nat.le_of_ble_eq_true rfl) d_X0_init_9 (fun H locs hP hD hS => ?_)
  have hP : va_P D vwCl ([(h0, .inr (0, [.ref q1, .null, .null, .null, .null, .null, .null, .int 0, .int 0])), (q1, .inl (cI, 50, .inl (fun _ => 0)))]) H := hP
  have hD : va_D A ([(h0, .inr (0, [.ref q1, .null, .null, .null, .null, .null, .null, .int 0, .int 0])), (q1, .inl (cI, 50, .inl (fun _ => 0)))]) := hD
  refine lv_aload_n hx hb d_X0_init_12 rfl (lv_at hl 0 rfl) ?_
  refine lv_bipush (v := 50) hx hb d_X0_init_13 (by decide) ?_
  refine va_newa (atype := .int) (ty := .int) (N' := 50) (a0 := (50, .inl (fun _ => 0))) hx hb (hts _ kw_arrI) rfl hK hP hD hS hA (fun cA => rfl) (by decide) (by decide) (Nat.le_of_ble_eq_true rfl) (Nat.le_of_ble_eq_true rfl) (Nat.le_of_ble_eq_true rfl) d_X0_init_15 (fun q2 cA H hK hP hD hS => ?_)
  refine W.widen (k := 2) (n := 100) (Nat.le_of_ble_eq_true rfl) (Nat.le_of_ble_eq_true rfl) ?_
  have hK : va_K D vwCl [(cI, .int), (cA, .int)] s := hK
  have ey : cI = cA := tyU hK (t := .int) (by simp) (by simp)
  subst ey
  have hK := hK.sub (tys' := [(cI, .int)]) [0] rfl
  have hP : va_P D vwCl ([(h0, .inr (0, [.ref q1, .null, .null, .null, .null, .null, .null, .int 0, .int 0])), (q1, .inl (cI, 50, .inl (fun _ => 0))), (q2, .inl (cI, 50, .inl (fun _ => 0)))]) H := hP
  have hD : va_D A ([(h0, .inr (0, [.ref q1, .null, .null, .null, .null, .null, .null, .int 0, .int 0])), (q1, .inl (cI, 50, .inl (fun _ => 0))), (q2, .inl (cI, 50, .inl (fun _ => 0)))]) := hD
  refine va_putF (D := D) (ci := 0) (v := .ref q2) (ty := .array .int) (C := RX0) (T := TX0) (N := 9) hx hb hts uw0 tyX0 tyX0_ok nmX0 hown hK hP hD hS 0 rfl rfl 1 (by decide) (hts _ kw_40) (fun _ h9 => h9) rfl hin rfl (by decide +kernel) rfl rfl (Nat.le_of_ble_eq_true rfl) d_X0_init_17 (fun H locs hP hD hS => ?_)
  have hP : va_P D vwCl ([(h0, .inr (0, [.ref q1, .ref q2, .null, .null, .null, .null, .null, .int 0, .int 0])), (q1, .inl (cI, 50, .inl (fun _ => 0))), (q2, .inl (cI, 50, .inl (fun _ => 0)))]) H := hP
  have hD : va_D A ([(h0, .inr (0, [.ref q1, .ref q2, .null, .null, .null, .null, .null, .int 0, .int 0])), (q1, .inl (cI, 50, .inl (fun _ => 0))), (q2, .inl (cI, 50, .inl (fun _ => 0)))]) := hD
  refine lv_aload_n hx hb d_X0_init_20 rfl (lv_at hl 0 rfl) ?_
  refine lv_bipush (v := 50) hx hb d_X0_init_21 (by decide) ?_
  refine va_newa (atype := .int) (ty := .int) (N' := 50) (a0 := (50, .inl (fun _ => 0))) hx hb (hts _ kw_arrI) rfl hK hP hD hS hA (fun cA => rfl) (by decide) (by decide) (Nat.le_of_ble_eq_true rfl) (Nat.le_of_ble_eq_true rfl) (Nat.le_of_ble_eq_true rfl) d_X0_init_23 (fun q3 cA H hK hP hD hS => ?_)
  refine W.widen (k := 3) (n := 150) (Nat.le_of_ble_eq_true rfl) (Nat.le_of_ble_eq_true rfl) ?_
  have hK : va_K D vwCl [(cI, .int), (cA, .int)] s := hK
  have ey : cI = cA := tyU hK (t := .int) (by simp) (by simp)
  subst ey
  have hK := hK.sub (tys' := [(cI, .int)]) [0] rfl
  have hP : va_P D vwCl ([(h0, .inr (0, [.ref q1, .ref q2, .null, .null, .null, .null, .null, .int 0, .int 0])), (q1, .inl (cI, 50, .inl (fun _ => 0))), (q2, .inl (cI, 50, .inl (fun _ => 0))), (q3, .inl (cI, 50, .inl (fun _ => 0)))]) H := hP
  have hD : va_D A ([(h0, .inr (0, [.ref q1, .ref q2, .null, .null, .null, .null, .null, .int 0, .int 0])), (q1, .inl (cI, 50, .inl (fun _ => 0))), (q2, .inl (cI, 50, .inl (fun _ => 0))), (q3, .inl (cI, 50, .inl (fun _ => 0)))]) := hD
  refine va_putF (D := D) (ci := 0) (v := .ref q3) (ty := .array .int) (C := RX0) (T := TX0) (N := 9) hx hb hts uw0 tyX0 tyX0_ok nmX0 hown hK hP hD hS 0 rfl rfl 2 (by decide) (hts _ kw_42) (fun _ h9 => h9) rfl hin rfl (by decide +kernel) rfl rfl (Nat.le_of_ble_eq_true rfl) d_X0_init_25 (fun H locs hP hD hS => ?_)
  have hP : va_P D vwCl ([(h0, .inr (0, [.ref q1, .ref q2, .ref q3, .null, .null, .null, .null, .int 0, .int 0])), (q1, .inl (cI, 50, .inl (fun _ => 0))), (q2, .inl (cI, 50, .inl (fun _ => 0))), (q3, .inl (cI, 50, .inl (fun _ => 0)))]) H := hP
  have hD : va_D A ([(h0, .inr (0, [.ref q1, .ref q2, .ref q3, .null, .null, .null, .null, .int 0, .int 0])), (q1, .inl (cI, 50, .inl (fun _ => 0))), (q2, .inl (cI, 50, .inl (fun _ => 0))), (q3, .inl (cI, 50, .inl (fun _ => 0)))]) := hD
  refine lv_aload_n hx hb d_X0_init_28 rfl (lv_at hl 0 rfl) ?_
  refine lv_bipush (v := 6) hx hb d_X0_init_29 (by decide) ?_
  refine va_newa (atype := .int) (ty := .int) (N' := 6) (a0 := (6, .inl (fun _ => 0))) hx hb (hts _ kw_arrI) rfl hK hP hD hS hA (fun cA => rfl) (by decide) (by decide) (Nat.le_of_ble_eq_true rfl) (Nat.le_of_ble_eq_true rfl) (Nat.le_of_ble_eq_true rfl) d_X0_init_31 (fun q4 cA H hK hP hD hS => ?_)
  refine W.widen (k := 4) (n := 156) (Nat.le_of_ble_eq_true rfl) (Nat.le_of_ble_eq_true rfl) ?_
  have hK : va_K D vwCl [(cI, .int), (cA, .int)] s := hK
  have ey : cI = cA := tyU hK (t := .int) (by simp) (by simp)
  subst ey
  have hK := hK.sub (tys' := [(cI, .int)]) [0] rfl
  have hP : va_P D vwCl ([(h0, .inr (0, [.ref q1, .ref q2, .ref q3, .null, .null, .null, .null, .int 0, .int 0])), (q1, .inl (cI, 50, .inl (fun _ => 0))), (q2, .inl (cI, 50, .inl (fun _ => 0))), (q3, .inl (cI, 50, .inl (fun _ => 0))), (q4, .inl (cI, 6, .inl (fun _ => 0)))]) H := hP
  have hD : va_D A ([(h0, .inr (0, [.ref q1, .ref q2, .ref q3, .null, .null, .null, .null, .int 0, .int 0])), (q1, .inl (cI, 50, .inl (fun _ => 0))), (q2, .inl (cI, 50, .inl (fun _ => 0))), (q3, .inl (cI, 50, .inl (fun _ => 0))), (q4, .inl (cI, 6, .inl (fun _ => 0)))]) := hD
  refine va_putF (D := D) (ci := 0) (v := .ref q4) (ty := .array .int) (C := RX0) (T := TX0) (N := 9) hx hb hts uw0 tyX0 tyX0_ok nmX0 hown hK hP hD hS 0 rfl rfl 3 (by decide) (hts _ kw_44) (fun _ h9 => h9) rfl hin rfl (by decide +kernel) rfl rfl (Nat.le_of_ble_eq_true rfl) d_X0_init_33 (fun H locs hP hD hS => ?_)
  have hP : va_P D vwCl ([(h0, .inr (0, [.ref q1, .ref q2, .ref q3, .ref q4, .null, .null, .null, .int 0, .int 0])), (q1, .inl (cI, 50, .inl (fun _ => 0))), (q2, .inl (cI, 50, .inl (fun _ => 0))), (q3, .inl (cI, 50, .inl (fun _ => 0))), (q4, .inl (cI, 6, .inl (fun _ => 0)))]) H := hP
  have hD : va_D A ([(h0, .inr (0, [.ref q1, .ref q2, .ref q3, .ref q4, .null, .null, .null, .int 0, .int 0])), (q1, .inl (cI, 50, .inl (fun _ => 0))), (q2, .inl (cI, 50, .inl (fun _ => 0))), (q3, .inl (cI, 50, .inl (fun _ => 0))), (q4, .inl (cI, 6, .inl (fun _ => 0)))]) := hD
  refine lv_aload_n hx hb d_X0_init_36 rfl (lv_at hl 0 rfl) ?_
  refine lv_bipush (v := 6) hx hb d_X0_init_37 (by decide) ?_
  refine va_newa (atype := .int) (ty := .int) (N' := 6) (a0 := (6, .inl (fun _ => 0))) hx hb (hts _ kw_arrI) rfl hK hP hD hS hA (fun cA => rfl) (by decide) (by decide) (Nat.le_of_ble_eq_true rfl) (Nat.le_of_ble_eq_true rfl) (Nat.le_of_ble_eq_true rfl) d_X0_init_39 (fun q5 cA H hK hP hD hS => ?_)
  refine W.widen (k := 5) (n := 162) (Nat.le_of_ble_eq_true rfl) (Nat.le_of_ble_eq_true rfl) ?_
  have hK : va_K D vwCl [(cI, .int), (cA, .int)] s := hK
  have ey : cI = cA := tyU hK (t := .int) (by simp) (by simp)
  subst ey
  have hK := hK.sub (tys' := [(cI, .int)]) [0] rfl
  have hP : va_P D vwCl ([(h0, .inr (0, [.ref q1, .ref q2, .ref q3, .ref q4, .null, .null, .null, .int 0, .int 0])), (q1, .inl (cI, 50, .inl (fun _ => 0))), (q2, .inl (cI, 50, .inl (fun _ => 0))), (q3, .inl (cI, 50, .inl (fun _ => 0))), (q4, .inl (cI, 6, .inl (fun _ => 0))), (q5, .inl (cI, 6, .inl (fun _ => 0)))]) H := hP
  have hD : va_D A ([(h0, .inr (0, [.ref q1, .ref q2, .ref q3, .ref q4, .null, .null, .null, .int 0, .int 0])), (q1, .inl (cI, 50, .inl (fun _ => 0))), (q2, .inl (cI, 50, .inl (fun _ => 0))), (q3, .inl (cI, 50, .inl (fun _ => 0))), (q4, .inl (cI, 6, .inl (fun _ => 0))), (q5, .inl (cI, 6, .inl (fun _ => 0)))]) := hD
  refine va_putF (D := D) (ci := 0) (v := .ref q5) (ty := .array .int) (C := RX0) (T := TX0) (N := 9) hx hb hts uw0 tyX0 tyX0_ok nmX0 hown hK hP hD hS 0 rfl rfl 4 (by decide) (hts _ kw_47) (fun _ h9 => h9) rfl hin rfl (by decide +kernel) rfl rfl (Nat.le_of_ble_eq_true rfl) d_X0_init_41 (fun H locs hP hD hS => ?_)
  have hP : va_P D vwCl ([(h0, .inr (0, [.ref q1, .ref q2, .ref q3, .ref q4, .ref q5, .null, .null, .int 0, .int 0])), (q1, .inl (cI, 50, .inl (fun _ => 0))), (q2, .inl (cI, 50, .inl (fun _ => 0))), (q3, .inl (cI, 50, .inl (fun _ => 0))), (q4, .inl (cI, 6, .inl (fun _ => 0))), (q5, .inl (cI, 6, .inl (fun _ => 0)))]) H := hP
  have hD : va_D A ([(h0, .inr (0, [.ref q1, .ref q2, .ref q3, .ref q4, .ref q5, .null, .null, .int 0, .int 0])), (q1, .inl (cI, 50, .inl (fun _ => 0))), (q2, .inl (cI, 50, .inl (fun _ => 0))), (q3, .inl (cI, 50, .inl (fun _ => 0))), (q4, .inl (cI, 6, .inl (fun _ => 0))), (q5, .inl (cI, 6, .inl (fun _ => 0)))]) := hD
  refine lv_aload_n hx hb d_X0_init_44 rfl (lv_at hl 0 rfl) ?_
  refine lv_bipush (v := 6) hx hb d_X0_init_45 (by decide) ?_
  refine va_newa (atype := .int) (ty := .int) (N' := 6) (a0 := (6, .inl (fun _ => 0))) hx hb (hts _ kw_arrI) rfl hK hP hD hS hA (fun cA => rfl) (by decide) (by decide) (Nat.le_of_ble_eq_true rfl) (Nat.le_of_ble_eq_true rfl) (Nat.le_of_ble_eq_true rfl) d_X0_init_47 (fun q6 cA H hK hP hD hS => ?_)
  refine W.widen (k := 6) (n := 168) (Nat.le_of_ble_eq_true rfl) (Nat.le_of_ble_eq_true rfl) ?_
  have hK : va_K D vwCl [(cI, .int), (cA, .int)] s := hK
  have ey : cI = cA := tyU hK (t := .int) (by simp) (by simp)
  subst ey
  have hK := hK.sub (tys' := [(cI, .int)]) [0] rfl
  have hP : va_P D vwCl ([(h0, .inr (0, [.ref q1, .ref q2, .ref q3, .ref q4, .ref q5, .null, .null, .int 0, .int 0])), (q1, .inl (cI, 50, .inl (fun _ => 0))), (q2, .inl (cI, 50, .inl (fun _ => 0))), (q3, .inl (cI, 50, .inl (fun _ => 0))), (q4, .inl (cI, 6, .inl (fun _ => 0))), (q5, .inl (cI, 6, .inl (fun _ => 0))), (q6, .inl (cI, 6, .inl (fun _ => 0)))]) H := hP
  have hD : va_D A ([(h0, .inr (0, [.ref q1, .ref q2, .ref q3, .ref q4, .ref q5, .null, .null, .int 0, .int 0])), (q1, .inl (cI, 50, .inl (fun _ => 0))), (q2, .inl (cI, 50, .inl (fun _ => 0))), (q3, .inl (cI, 50, .inl (fun _ => 0))), (q4, .inl (cI, 6, .inl (fun _ => 0))), (q5, .inl (cI, 6, .inl (fun _ => 0))), (q6, .inl (cI, 6, .inl (fun _ => 0)))]) := hD
  refine va_putF (D := D) (ci := 0) (v := .ref q6) (ty := .array .int) (C := RX0) (T := TX0) (N := 9) hx hb hts uw0 tyX0 tyX0_ok nmX0 hown hK hP hD hS 0 rfl rfl 5 (by decide) (hts _ kw_49) (fun _ h9 => h9) rfl hin rfl (by decide +kernel) rfl rfl (Nat.le_of_ble_eq_true rfl) d_X0_init_49 (fun H locs hP hD hS => ?_)
  have hP : va_P D vwCl ([(h0, .inr (0, [.ref q1, .ref q2, .ref q3, .ref q4, .ref q5, .ref q6, .null, .int 0, .int 0])), (q1, .inl (cI, 50, .inl (fun _ => 0))), (q2, .inl (cI, 50, .inl (fun _ => 0))), (q3, .inl (cI, 50, .inl (fun _ => 0))), (q4, .inl (cI, 6, .inl (fun _ => 0))), (q5, .inl (cI, 6, .inl (fun _ => 0))), (q6, .inl (cI, 6, .inl (fun _ => 0)))]) H := hP
  have hD : va_D A ([(h0, .inr (0, [.ref q1, .ref q2, .ref q3, .ref q4, .ref q5, .ref q6, .null, .int 0, .int 0])), (q1, .inl (cI, 50, .inl (fun _ => 0))), (q2, .inl (cI, 50, .inl (fun _ => 0))), (q3, .inl (cI, 50, .inl (fun _ => 0))), (q4, .inl (cI, 6, .inl (fun _ => 0))), (q5, .inl (cI, 6, .inl (fun _ => 0))), (q6, .inl (cI, 6, .inl (fun _ => 0)))]) := hD
  refine lv_aload_n hx hb d_X0_init_52 rfl (lv_at hl 0 rfl) ?_
  refine lv_iconst (v := 4) hx hb d_X0_init_53 (by decide) ?_
  refine va_newa (atype := .int) (ty := .int) (N' := 4) (a0 := (4, .inl (fun _ => 0))) hx hb (hts _ kw_arrI) rfl hK hP hD hS hA (fun cA => rfl) (by decide) (by decide) (Nat.le_of_ble_eq_true rfl) (Nat.le_of_ble_eq_true rfl) (Nat.le_of_ble_eq_true rfl) d_X0_init_54 (fun q7 cA H hK hP hD hS => ?_)
  refine W.widen (k := 7) (n := 172) (Nat.le_of_ble_eq_true rfl) (Nat.le_of_ble_eq_true rfl) ?_
  have hK : va_K D vwCl [(cI, .int), (cA, .int)] s := hK
  have ey : cI = cA := tyU hK (t := .int) (by simp) (by simp)
  subst ey
  have hK := hK.sub (tys' := [(cI, .int)]) [0] rfl
  have hP : va_P D vwCl ([(h0, .inr (0, [.ref q1, .ref q2, .ref q3, .ref q4, .ref q5, .ref q6, .null, .int 0, .int 0])), (q1, .inl (cI, 50, .inl (fun _ => 0))), (q2, .inl (cI, 50, .inl (fun _ => 0))), (q3, .inl (cI, 50, .inl (fun _ => 0))), (q4, .inl (cI, 6, .inl (fun _ => 0))), (q5, .inl (cI, 6, .inl (fun _ => 0))), (q6, .inl (cI, 6, .inl (fun _ => 0))), (q7, .inl (cI, 4, .inl (fun _ => 0)))]) H := hP
  have hD : va_D A ([(h0, .inr (0, [.ref q1, .ref q2, .ref q3, .ref q4, .ref q5, .ref q6, .null, .int 0, .int 0])), (q1, .inl (cI, 50, .inl (fun _ => 0))), (q2, .inl (cI, 50, .inl (fun _ => 0))), (q3, .inl (cI, 50, .inl (fun _ => 0))), (q4, .inl (cI, 6, .inl (fun _ => 0))), (q5, .inl (cI, 6, .inl (fun _ => 0))), (q6, .inl (cI, 6, .inl (fun _ => 0))), (q7, .inl (cI, 4, .inl (fun _ => 0)))]) := hD
  refine va_putF (D := D) (ci := 0) (v := .ref q7) (ty := .array .int) (C := RX0) (T := TX0) (N := 9) hx hb hts uw0 tyX0 tyX0_ok nmX0 hown hK hP hD hS 0 rfl rfl 6 (by decide) (hts _ kw_50) (fun _ h9 => h9) rfl hin rfl (by decide +kernel) rfl rfl (Nat.le_of_ble_eq_true rfl) d_X0_init_56 (fun H locs hP hD hS => ?_)
  have hP : va_P D vwCl ([(h0, .inr (0, [.ref q1, .ref q2, .ref q3, .ref q4, .ref q5, .ref q6, .ref q7, .int 0, .int 0])), (q1, .inl (cI, 50, .inl (fun _ => 0))), (q2, .inl (cI, 50, .inl (fun _ => 0))), (q3, .inl (cI, 50, .inl (fun _ => 0))), (q4, .inl (cI, 6, .inl (fun _ => 0))), (q5, .inl (cI, 6, .inl (fun _ => 0))), (q6, .inl (cI, 6, .inl (fun _ => 0))), (q7, .inl (cI, 4, .inl (fun _ => 0)))]) H := hP
  have hD : va_D A ([(h0, .inr (0, [.ref q1, .ref q2, .ref q3, .ref q4, .ref q5, .ref q6, .ref q7, .int 0, .int 0])), (q1, .inl (cI, 50, .inl (fun _ => 0))), (q2, .inl (cI, 50, .inl (fun _ => 0))), (q3, .inl (cI, 50, .inl (fun _ => 0))), (q4, .inl (cI, 6, .inl (fun _ => 0))), (q5, .inl (cI, 6, .inl (fun _ => 0))), (q6, .inl (cI, 6, .inl (fun _ => 0))), (q7, .inl (cI, 4, .inl (fun _ => 0)))]) := hD
  refine lv_aload_n hx hb d_X0_init_59 rfl (lv_at hl 0 rfl) ?_
  refine va_get (ci := 0) (v := .ref q7) (C := RX0) (T := TX0) (N := 9) hx hb hts uw0 hown hK hP 0 rfl rfl 6 (by decide) (hts _ kw_50) (fun _ h9 => h9) rfl d_X0_init_60 ?_
  refine lv_iconst (v := 0) hx hb d_X0_init_63 (by decide) ?_
  refine lv_iconst (v := 4) hx hb d_X0_init_64 (by decide) ?_
  refine va_iast hx hb hK hP hD hS 7 0 rfl rfl (vpi (by decide)) d_X0_init_65 (fun H locs hP hD hS => ?_)
  have hP : va_P D vwCl ([(h0, .inr (0, [.ref q1, .ref q2, .ref q3, .ref q4, .ref q5, .ref q6, .ref q7, .int 0, .int 0])), (q1, .inl (cI, 50, .inl (fun _ => 0))), (q2, .inl (cI, 50, .inl (fun _ => 0))), (q3, .inl (cI, 50, .inl (fun _ => 0))), (q4, .inl (cI, 6, .inl (fun _ => 0))), (q5, .inl (cI, 6, .inl (fun _ => 0))), (q6, .inl (cI, 6, .inl (fun _ => 0))), (q7, .inl (cI, 4, .inl (upd (fun _ => 0) (0 : Int32).toNatClampNeg 4)))]) H := hP
  have hD : va_D A ([(h0, .inr (0, [.ref q1, .ref q2, .ref q3, .ref q4, .ref q5, .ref q6, .ref q7, .int 0, .int 0])), (q1, .inl (cI, 50, .inl (fun _ => 0))), (q2, .inl (cI, 50, .inl (fun _ => 0))), (q3, .inl (cI, 50, .inl (fun _ => 0))), (q4, .inl (cI, 6, .inl (fun _ => 0))), (q5, .inl (cI, 6, .inl (fun _ => 0))), (q6, .inl (cI, 6, .inl (fun _ => 0))), (q7, .inl (cI, 4, .inl (upd (fun _ => 0) (0 : Int32).toNatClampNeg 4)))]) := hD
  refine lv_aload_n hx hb d_X0_init_66 rfl (lv_at hl 0 rfl) ?_
  refine va_get (ci := 0) (v := .ref q7) (C := RX0) (T := TX0) (N := 9) hx hb hts uw0 hown hK hP 0 rfl rfl 6 (by decide) (hts _ kw_50) (fun _ h9 => h9) rfl d_X0_init_67 ?_
  refine lv_iconst (v := 1) hx hb d_X0_init_70 (by decide) ?_
  refine lv_iconst (v := 5) hx hb d_X0_init_71 (by decide) ?_
  refine va_iast hx hb hK hP hD hS 7 0 rfl rfl (vpi (by decide)) d_X0_init_72 (fun H locs hP hD hS => ?_)
  have hP : va_P D vwCl ([(h0, .inr (0, [.ref q1, .ref q2, .ref q3, .ref q4, .ref q5, .ref q6, .ref q7, .int 0, .int 0])), (q1, .inl (cI, 50, .inl (fun _ => 0))), (q2, .inl (cI, 50, .inl (fun _ => 0))), (q3, .inl (cI, 50, .inl (fun _ => 0))), (q4, .inl (cI, 6, .inl (fun _ => 0))), (q5, .inl (cI, 6, .inl (fun _ => 0))), (q6, .inl (cI, 6, .inl (fun _ => 0))), (q7, .inl (cI, 4, .inl (upd (upd (fun _ => 0) (0 : Int32).toNatClampNeg 4) (1 : Int32).toNatClampNeg 5)))]) H := hP
  have hD : va_D A ([(h0, .inr (0, [.ref q1, .ref q2, .ref q3, .ref q4, .ref q5, .ref q6, .ref q7, .int 0, .int 0])), (q1, .inl (cI, 50, .inl (fun _ => 0))), (q2, .inl (cI, 50, .inl (fun _ => 0))), (q3, .inl (cI, 50, .inl (fun _ => 0))), (q4, .inl (cI, 6, .inl (fun _ => 0))), (q5, .inl (cI, 6, .inl (fun _ => 0))), (q6, .inl (cI, 6, .inl (fun _ => 0))), (q7, .inl (cI, 4, .inl (upd (upd (fun _ => 0) (0 : Int32).toNatClampNeg 4) (1 : Int32).toNatClampNeg 5)))]) := hD
  refine lv_aload_n hx hb d_X0_init_73 rfl (lv_at hl 0 rfl) ?_
  refine va_get (ci := 0) (v := .ref q7) (C := RX0) (T := TX0) (N := 9) hx hb hts uw0 hown hK hP 0 rfl rfl 6 (by decide) (hts _ kw_50) (fun _ h9 => h9) rfl d_X0_init_74 ?_
  refine lv_iconst (v := 2) hx hb d_X0_init_77 (by decide) ?_
  refine lv_iconst (v := 3) hx hb d_X0_init_78 (by decide) ?_
  refine va_iast hx hb hK hP hD hS 7 0 rfl rfl (vpi (by decide)) d_X0_init_79 (fun H locs hP hD hS => ?_)
  have hP : va_P D vwCl ([(h0, .inr (0, [.ref q1, .ref q2, .ref q3, .ref q4, .ref q5, .ref q6, .ref q7, .int 0, .int 0])), (q1, .inl (cI, 50, .inl (fun _ => 0))), (q2, .inl (cI, 50, .inl (fun _ => 0))), (q3, .inl (cI, 50, .inl (fun _ => 0))), (q4, .inl (cI, 6, .inl (fun _ => 0))), (q5, .inl (cI, 6, .inl (fun _ => 0))), (q6, .inl (cI, 6, .inl (fun _ => 0))), (q7, .inl (cI, 4, .inl (upd (upd (upd (fun _ => 0) (0 : Int32).toNatClampNeg 4) (1 : Int32).toNatClampNeg 5) (2 : Int32).toNatClampNeg 3)))]) H := hP
  have hD : va_D A ([(h0, .inr (0, [.ref q1, .ref q2, .ref q3, .ref q4, .ref q5, .ref q6, .ref q7, .int 0, .int 0])), (q1, .inl (cI, 50, .inl (fun _ => 0))), (q2, .inl (cI, 50, .inl (fun _ => 0))), (q3, .inl (cI, 50, .inl (fun _ => 0))), (q4, .inl (cI, 6, .inl (fun _ => 0))), (q5, .inl (cI, 6, .inl (fun _ => 0))), (q6, .inl (cI, 6, .inl (fun _ => 0))), (q7, .inl (cI, 4, .inl (upd (upd (upd (fun _ => 0) (0 : Int32).toNatClampNeg 4) (1 : Int32).toNatClampNeg 5) (2 : Int32).toNatClampNeg 3)))]) := hD
  refine lv_aload_n hx hb d_X0_init_80 rfl (lv_at hl 0 rfl) ?_
  refine va_get (ci := 0) (v := .ref q7) (C := RX0) (T := TX0) (N := 9) hx hb hts uw0 hown hK hP 0 rfl rfl 6 (by decide) (hts _ kw_50) (fun _ h9 => h9) rfl d_X0_init_81 ?_
  refine lv_iconst (v := 3) hx hb d_X0_init_84 (by decide) ?_
  refine lv_iconst (v := 2) hx hb d_X0_init_85 (by decide) ?_
  refine va_iast hx hb hK hP hD hS 7 0 rfl rfl (vpi (by decide)) d_X0_init_86 (fun H locs hP hD hS => ?_)
  have hP : va_P D vwCl ([(h0, .inr (0, [.ref q1, .ref q2, .ref q3, .ref q4, .ref q5, .ref q6, .ref q7, .int 0, .int 0])), (q1, .inl (cI, 50, .inl (fun _ => 0))), (q2, .inl (cI, 50, .inl (fun _ => 0))), (q3, .inl (cI, 50, .inl (fun _ => 0))), (q4, .inl (cI, 6, .inl (fun _ => 0))), (q5, .inl (cI, 6, .inl (fun _ => 0))), (q6, .inl (cI, 6, .inl (fun _ => 0))), (q7, .inl (cI, 4, .inl (upd (upd (upd (upd (fun _ => 0) (0 : Int32).toNatClampNeg 4) (1 : Int32).toNatClampNeg 5) (2 : Int32).toNatClampNeg 3) (3 : Int32).toNatClampNeg 2)))]) H := hP
  have hD : va_D A ([(h0, .inr (0, [.ref q1, .ref q2, .ref q3, .ref q4, .ref q5, .ref q6, .ref q7, .int 0, .int 0])), (q1, .inl (cI, 50, .inl (fun _ => 0))), (q2, .inl (cI, 50, .inl (fun _ => 0))), (q3, .inl (cI, 50, .inl (fun _ => 0))), (q4, .inl (cI, 6, .inl (fun _ => 0))), (q5, .inl (cI, 6, .inl (fun _ => 0))), (q6, .inl (cI, 6, .inl (fun _ => 0))), (q7, .inl (cI, 4, .inl (upd (upd (upd (upd (fun _ => 0) (0 : Int32).toNatClampNeg 4) (1 : Int32).toNatClampNeg 5) (2 : Int32).toNatClampNeg 3) (3 : Int32).toNatClampNeg 2)))]) := hD
  refine lv_aload_n hx hb d_X0_init_87 rfl (lv_at hl 0 rfl) ?_
  refine lv_iconst (v := 0) hx hb d_X0_init_88 (by decide) ?_
  refine va_put (D := D) (ci := 0) (v := .int 0) (ty := .int) (C := RX0) (T := TX0) (N := 9) hx hb hts uw0 tyX0 tyX0_ok nmX0 hown hK hP hD hS 0 rfl rfl 7 (by decide) (hts _ kw_53) (fun _ h9 => h9) rfl (by decide +kernel) rfl rfl (Nat.le_of_ble_eq_true rfl) d_X0_init_89 (fun H locs hP hD hS => ?_)
  have hP : va_P D vwCl ([(h0, .inr (0, [.ref q1, .ref q2, .ref q3, .ref q4, .ref q5, .ref q6, .ref q7, .int 0, .int 0])), (q1, .inl (cI, 50, .inl (fun _ => 0))), (q2, .inl (cI, 50, .inl (fun _ => 0))), (q3, .inl (cI, 50, .inl (fun _ => 0))), (q4, .inl (cI, 6, .inl (fun _ => 0))), (q5, .inl (cI, 6, .inl (fun _ => 0))), (q6, .inl (cI, 6, .inl (fun _ => 0))), (q7, .inl (cI, 4, .inl (upd (upd (upd (upd (fun _ => 0) (0 : Int32).toNatClampNeg 4) (1 : Int32).toNatClampNeg 5) (2 : Int32).toNatClampNeg 3) (3 : Int32).toNatClampNeg 2)))]) H := hP
  have hD : va_D A ([(h0, .inr (0, [.ref q1, .ref q2, .ref q3, .ref q4, .ref q5, .ref q6, .ref q7, .int 0, .int 0])), (q1, .inl (cI, 50, .inl (fun _ => 0))), (q2, .inl (cI, 50, .inl (fun _ => 0))), (q3, .inl (cI, 50, .inl (fun _ => 0))), (q4, .inl (cI, 6, .inl (fun _ => 0))), (q5, .inl (cI, 6, .inl (fun _ => 0))), (q6, .inl (cI, 6, .inl (fun _ => 0))), (q7, .inl (cI, 4, .inl (upd (upd (upd (upd (fun _ => 0) (0 : Int32).toNatClampNeg 4) (1 : Int32).toNatClampNeg 5) (2 : Int32).toNatClampNeg 3) (3 : Int32).toNatClampNeg 2)))]) := hD
  refine lv_aload_n hx hb d_X0_init_92 rfl (lv_at hl 0 rfl) ?_
  refine lv_iconst (v := 0) hx hb d_X0_init_93 (by decide) ?_
  refine va_put (D := D) (ci := 0) (v := .int 0) (ty := .int) (C := RX0) (T := TX0) (N := 9) hx hb hts uw0 tyX0 tyX0_ok nmX0 hown hK hP hD hS 0 rfl rfl 8 (by decide) (hts _ kw_56) (fun _ h9 => h9) rfl (by decide +kernel) rfl rfl (Nat.le_of_ble_eq_true rfl) d_X0_init_94 (fun H locs hP hD hS => ?_)
  have hP : va_P D vwCl ([(h0, .inr (0, [.ref q1, .ref q2, .ref q3, .ref q4, .ref q5, .ref q6, .ref q7, .int 0, .int 0])), (q1, .inl (cI, 50, .inl (fun _ => 0))), (q2, .inl (cI, 50, .inl (fun _ => 0))), (q3, .inl (cI, 50, .inl (fun _ => 0))), (q4, .inl (cI, 6, .inl (fun _ => 0))), (q5, .inl (cI, 6, .inl (fun _ => 0))), (q6, .inl (cI, 6, .inl (fun _ => 0))), (q7, .inl (cI, 4, .inl (upd (upd (upd (upd (fun _ => 0) (0 : Int32).toNatClampNeg 4) (1 : Int32).toNatClampNeg 5) (2 : Int32).toNatClampNeg 3) (3 : Int32).toNatClampNeg 2)))]) H := hP
  have hD : va_D A ([(h0, .inr (0, [.ref q1, .ref q2, .ref q3, .ref q4, .ref q5, .ref q6, .ref q7, .int 0, .int 0])), (q1, .inl (cI, 50, .inl (fun _ => 0))), (q2, .inl (cI, 50, .inl (fun _ => 0))), (q3, .inl (cI, 50, .inl (fun _ => 0))), (q4, .inl (cI, 6, .inl (fun _ => 0))), (q5, .inl (cI, 6, .inl (fun _ => 0))), (q6, .inl (cI, 6, .inl (fun _ => 0))), (q7, .inl (cI, 4, .inl (upd (upd (upd (upd (fun _ => 0) (0 : Int32).toNatClampNeg 4) (1 : Int32).toNatClampNeg 5) (2 : Int32).toNatClampNeg 3) (3 : Int32).toNatClampNeg 2)))]) := hD
  rw [setG_eq] at hP hD
  have hP9 : va_P D vwCl (coreW h0 (fun i : Nat => [q1, q2, q3, q4, q5, q6, q7].getD i 0) cI) H := hP
  have hD9 : va_D A (coreW h0 (fun i : Nat => [q1, q2, q3, q4, q5, q6, q7].getD i 0) cI) := hD
  have hK9 := hK
  obtain ⟨u9, eu9⟩ : ∃ u : (Nat → Nat) × ClassId, u = ((fun i : Nat => [q1, q2, q3, q4, q5, q6, q7].getD i 0), cI) := ⟨_, rfl⟩
  have hP9 : va_P D vwCl (coreW h0 u9.1 u9.2) H := by rw [eu9]; exact hP9
  have hD9 : va_D A (coreW h0 u9.1 u9.2) := by rw [eu9]; exact hD9
  have hK9 : va_K D vwCl [(u9.2, .int)] s := by rw [eu9]; exact hK9
  exact W.vret hx hb hr (fun t ht hW => ⟨⟨u9, rfl, trivial, by rw [ht]; exact hP9, va_K.moved hW.alike hK9, hD9⟩, hS.F ht⟩) hS.2.2 d_X0_init_97
