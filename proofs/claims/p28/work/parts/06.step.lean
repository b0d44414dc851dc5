/-! THE CODE AGAINST THE TABLES, one step, and a whole method -/
set_option maxRecDepth 100000 in
theorem lb_min_s : Jvm.Cond.static Lib.Math.min.name ∈ BG := bg_of 222 rfl rfl
set_option maxRecDepth 100000 in
theorem lb_min_c : Jvm.Cond.code Lib.Math.min.name Lib.Math.min.code 2 (some .int) ∈ BG := bg_of 223 rfl rfl
set_option maxRecDepth 100000 in
theorem lb_max_s : Jvm.Cond.static Lib.Math.max.name ∈ BG := bg_of 422 rfl rfl
set_option maxRecDepth 100000 in
theorem lb_max_c : Jvm.Cond.code Lib.Math.max.name Lib.Math.max.code 2 (some .int) ∈ BG := bg_of 423 rfl rfl
set_option maxRecDepth 100000 in
theorem lb_abs_s : Jvm.Cond.static Lib.Math.abs.name ∈ BG := bg_of 338 rfl rfl
set_option maxRecDepth 100000 in
theorem lb_abs_c : Jvm.Cond.code Lib.Math.abs.name Lib.Math.abs.code 1 (some .int) ∈ BG := bg_of 339 rfl rfl
set_option maxRecDepth 100000 in
theorem lb_math : Jvm.Cond.initialized "java/lang/Math" ∈ BG := bg_of 24 rfl rfl
set_option maxRecDepth 100000 in
theorem lb_copy_s : Jvm.Cond.static arraycopyName ∈ BG := bg_of 219 rfl rfl
set_option maxRecDepth 100000 in
theorem lb_copy_n : Jvm.Cond.native arraycopyName ∈ BG := bg_of 220 rfl rfl
set_option maxRecDepth 100000 in
theorem lb_sys : Jvm.Cond.initialized "java/lang/System" ∈ BG := bg_of 23 rfl rfl
def chkI (cc : ByteArray) (oc nL : Nat) (rk : Option FieldType) (pc : Nat) (ins : AMI) : Bool := match ins with
  | (0, v, _, _, _, nx) => (match decode cc pc with
    | .ok (.iconst w, 1) => decide (w = v ∧ nx = pc + 1)
    | .ok (.bipush w, 2) => decide (w = v ∧ (Int8.ofInt v).toInt32 = Int32.ofInt v ∧ nx = pc + 2)
    | .ok (.sipush w, 3) => decide (w = v ∧ (Int16.ofInt v).toInt32 = Int32.ofInt v ∧ nx = pc + 3)
    | .ok (.ldc idx, 2) => decide ((oc, idx, v) ∈ klL.map Prod.snd ∧ nx = pc + 2)
    | _ => false)
  | (1, _, k, _, _, nx) => (match decode cc pc with
    | .ok (.iload w, 2) => decide (w = k ∧ nx = pc + 2)
    | .ok (.iload_n w, 1) => decide ((w : Nat) = k ∧ nx = pc + 1)
    | _ => false)
  | (2, _, k, _, _, nx) => (match decode cc pc with
    | .ok (.aload w, 2) => decide (w = k ∧ nx = pc + 2)
    | .ok (.aload_n w, 1) => decide ((w : Nat) = k ∧ nx = pc + 1)
    | _ => false)
  | (3, _, k, _, _, nx) => (match decode cc pc with
    | .ok (.istore w, 2) => decide (w = k ∧ k < nL ∧ nx = pc + 2)
    | .ok (.istore_n w, 1) => decide ((w : Nat) = k ∧ k < nL ∧ nx = pc + 1)
    | _ => false)
  | (4, _, k, _, _, nx) => (match decode cc pc with
    | .ok (.astore w, 2) => decide (w = k ∧ k < nL ∧ nx = pc + 2)
    | .ok (.astore_n w, 1) => decide ((w : Nat) = k ∧ k < nL ∧ nx = pc + 1)
    | _ => false)
  | (5, _, _, _, _, nx) => decide (decode cc pc = .ok (.iadd, 1) ∧ nx = pc + 1)
  | (6, _, _, _, _, nx) => decide (decode cc pc = .ok (.isub, 1) ∧ nx = pc + 1)
  | (7, _, _, _, _, nx) => decide (decode cc pc = .ok (.imul, 1) ∧ nx = pc + 1)
  | (8, _, _, _, _, nx) => decide (decode cc pc = .ok (.idiv, 1) ∧ nx = pc + 1)
  | (9, _, _, _, _, nx) => decide (decode cc pc = .ok (.irem, 1) ∧ nx = pc + 1)
  | (10, _, _, _, _, nx) => decide (decode cc pc = .ok (.ineg, 1) ∧ nx = pc + 1)
  | (11, n, k, _, _, nx) => decide (k < nL ∧ decode cc pc = .ok (.iinc k n, 3) ∧ nx = pc + 3)
  | (12, _, _, _, _, nx) => decide (decode cc pc = .ok (.dup, 1) ∧ nx = pc + 1)
  | (13, _, _, _, _, nx) => decide (decode cc pc = .ok (.dup2, 1) ∧ nx = pc + 1)
  | (14, _, _, _, _, nx) => decide (decode cc pc = .ok (.pop, 1) ∧ nx = pc + 1)
  | (15, off, cond, tgt, _, nx) => decide (decode cc pc = .ok (.ifCond (cnd cond) off, 3) ∧ (pc : Int) + off = (tgt : Int) ∧ nx = pc + 3)
  | (16, off, cond, tgt, _, nx) => decide (decode cc pc = .ok (.if_icmp (cnd cond) off, 3) ∧ (pc : Int) + off = (tgt : Int) ∧ nx = pc + 3)
  | (17, off, _, _, _, nx) => decide (decode cc pc = .ok (.goto off, 3) ∧ (pc : Int) + off = (nx : Int))
  | (18, _, w, _, _, _) => (match decode cc pc with
    | .ok (.tableswitch d lo hi offs, _) => decide (lo = (swT w).1 ∧ hi = (swT w).1 + ((swT w).2.1.length : Int) - 1 ∧ offs.toList.map (fun o => (pc : Int) + o) = (swT w).2.1.map (fun (t : Nat) => (t : Int)) ∧ (pc : Int) + d = ((swT w).2.2 : Int))
    | _ => false)
  | (20, _, _, _, _, nx) => decide (decode cc pc = .ok (.iaload, 1) ∧ nx = pc + 1)
  | (21, _, _, _, _, nx) => decide (decode cc pc = .ok (.caload, 1) ∧ nx = pc + 1)
  | (22, _, _, _, _, nx) => decide (decode cc pc = .ok (.aaload, 1) ∧ nx = pc + 1)
  | (23, _, _, _, _, nx) => decide (decode cc pc = .ok (.iastore, 1) ∧ nx = pc + 1)
  | (24, _, _, _, _, nx) => decide (decode cc pc = .ok (.castore, 1) ∧ nx = pc + 1)
  | (25, i, ci, f, _, nx) => decide (decode cc pc = .ok (.getfield i.toNat, 3) ∧ nx = pc + 3 ∧ (oc, i.toNat, ci, f) ∈ flL.map Prod.snd)
  | (26, i, ci, f, _, nx) => decide (decode cc pc = .ok (.putfield i.toNat, 3) ∧ nx = pc + 3 ∧ (oc, i.toNat, ci, f) ∈ flL.map Prod.snd ∧ parseFieldDescriptor (TXn ci f).2.2.1 = some .int)
  | (27, i, ci, f, _, nx) => decide (decode cc pc = .ok (.putfield i.toNat, 3) ∧ nx = pc + 3 ∧ (oc, i.toNat, ci, f) ∈ flL.map Prod.snd ∧ parseFieldDescriptor (TXn ci f).2.2.1 = some .boolean)
  | (28, _, _, _, _, nx) => decide (decode cc pc = .ok (.i2c, 1) ∧ nx = pc + 1)
  | (29, i, _, _, _, nx) => decide (decode cc pc = .ok (.invokestatic i.toNat, 3) ∧ nx = pc + 3 ∧ (oc, i.toNat, 29) ∈ mmL.map Prod.snd)
  | (30, i, y, n, _, nx) => decide (decode cc pc = .ok (.invokestatic i.toNat, 3) ∧ nx = pc + 3 ∧ y = m_X4_isWithin ∧ n = mA y ∧ (oc = 2 ∧ i.toNat = 173))
  | (31, i, y, n, ci, nx) => decide (decode cc pc = .ok (.invokevirtual i.toNat, 3) ∧ nx = pc + 3 ∧ y < NMs ∧ mS y = false ∧ n = mA y ∧ ci = mC y ∧ (oc, i.toNat, y) ∈ mlL.map Prod.snd)
  | (32, i, y, n, _, nx) => decide (decode cc pc = .ok (.invokestatic i.toNat, 3) ∧ nx = pc + 3 ∧ y < NMs ∧ mS y = true ∧ n = mA y ∧ (oc, i.toNat, y) ∈ mlL.map Prod.snd)
  | (33, i, _, _, _, nx) => decide (decode cc pc = .ok (.invokestatic i.toNat, 3) ∧ nx = pc + 3 ∧ (oc, i.toNat, 33) ∈ mmL.map Prod.snd)
  | (34, i, _, _, _, nx) => decide (decode cc pc = .ok (.invokestatic i.toNat, 3) ∧ nx = pc + 3 ∧ (oc, i.toNat, 34) ∈ mmL.map Prod.snd)
  | (35, i, _, _, _, nx) => decide (decode cc pc = .ok (.invokestatic i.toNat, 3) ∧ nx = pc + 3 ∧ (oc, i.toNat, 35) ∈ mmL.map Prod.snd)
  | (40, _, _, _, _, _) => decide (decode cc pc = .ok (.ireturn, 1) ∧ rk = some .int)
  | (41, _, _, _, _, _) => decide (decode cc pc = .ok (.ireturn, 1) ∧ rk = some .boolean)
  | (42, _, _, _, _, _) => decide (decode cc pc = .ok (.areturn, 1) ∧ rk = some (.array .int))
  | (43, _, _, _, _, _) => decide (decode cc pc = .ok (.return_, 1) ∧ rk = none)
  | (46, _, _, _, _, nx) => decide (decode cc pc = .ok (.ishr, 1) ∧ nx = pc + 1)
  | (47, _, _, _, _, nx) => decide (decode cc pc = .ok (.iand, 1) ∧ nx = pc + 1)
  | (48, _, _, _, _, nx) => decide (oc = 6 ∧ decode cc pc = .ok (.arraylength, 1) ∧ nx = pc + 1)
  | (50, _, _, _, _, nx) => decide (oc = 6 ∧ decode cc pc = .ok (.iaload, 1) ∧ nx = pc + 1)
  | _ => false
def isSp (op : Nat) : Bool := Nat.beq op 40 || Nat.beq op 41 || Nat.beq op 42 || Nat.beq op 43 || Nat.beq op 48 || Nat.beq op 50
theorem snd_in {α : Type} {l : List (Nat × α)} {P : α → Prop} (h : ∀ q ∈ l, P q.2) {x : α} (hx : x ∈ l.map Prod.snd) : P x := by
  obtain ⟨q, hq, rfl⟩ := List.mem_map.mp hx
  exact h q hq
section AMST
variable {p : Program} {l : Launch} {e : Env} {R : Room} {s : State} {m : MethodId} {args : Array Value} {below : List Frame} {meth : Method} {c : Code} {cells slots : Nat} {Qw : State → Prop} {ad : Nat → Int → Nat} {cy : Nat → ClassId} {D : va_G} {A0 : Nat → Prop} {H0 : Heap} {nL : Nat} {cc : ByteArray} {pc : Nat} {ls st : List AV} {σ σz : Sto} {own : String}
set_option maxHeartbeats 8000000 in
theorem w_step {SW : State → Prop} {Γ : Gam} {Q : Post} {rm : Room} {oc : Nat} {rk : Option FieldType} {ins : AMI} (hx : p.tables.exec = Jvm.exec) (hb : c.code = cc) (hml : c.maxLocals = nL) (hts : ∀ w ∈ BG, w.before args s = true) (hown : s.vm.findClass (RXn oc) = some m.cls) (hK : va_K D vwCl (tysW cy) s) (hD : ∀ σ, va_D A0 (cellsW ad cy σ)) (hR : 1 ≤ R.frames ∧ 40 ≤ R.locals) (hC : cells ≤ R.cells ∧ slots ≤ R.slots) (hSWb : ∀ (U : State) (g : JFrame) (mk : MethodId) (a : Array Value), SW U → SW (U.calling g mk a)) (hSWH : ∀ (H : Heap) (locs : List Loc) (U : State), va_S A0 H0 H locs → U.heap = H → s.WarmedH U.vm → SW U) (hnest : va_Nw (.methodLinkNest RX2 173 yX4_isWithin RX4) s)
    (hΓ : ∀ y as σ Q, y < NMs → Γ y as σ Q → as.length = mA y → (∀ v ∈ as, okv v) → okS σz σ → MetY l ad cy D SW A0 rm y as σ Q) (hrm : rm.cells = 0 ∧ rm.slots = 0 ∧ rm.frames + 1 ≤ R.frames ∧ 30 + rm.locals ≤ R.locals)
    (hc : chkI cc oc nL rk pc ins = true) (hsp : isSp ins.1 = true → (AMW p l e R s m args below meth c cells slots Qw ad cy D A0 H0 nL σz) pc ls st σ) (h : stp Γ Q (AMW p l e R s m args below meth c cells slots Qw ad cy D A0 H0 nL σz) ls st σ ins) : (AMW p l e R s m args below meth c cells slots Qw ad cy D A0 H0 nL σz) pc ls st σ := by
  have hfl : ∀ idx ci f : Nat, (oc, idx, ci, f) ∈ flL.map Prod.snd → (Jvm.Cond.fieldLink (RXn oc) idx (TXn ci f).1 (TXn ci f).2.1 (TXn ci f).2.2.1).before args s = true := fun idx ci f hx => hts (flW (oc, idx, ci, f)) (snd_in (P := fun x => flW x ∈ BG) flL_ok hx)
  have hmlk : ∀ idx y : Nat, (oc, idx, y) ∈ mlL.map Prod.snd → (Jvm.Cond.methodLink (RXn oc) idx (mN y)).before args s = true := fun idx y hx => hts (mlW (oc, idx, y)) (snd_in (P := fun x => mlW x ∈ BG) mlL_ok hx)
  have hkl : ∀ (idx : Nat) (v : Int), (oc, idx, v) ∈ klL.map Prod.snd → (Jvm.Cond.constant (RXn oc) idx (Int32.ofInt v)).before args s = true := fun idx v hx => hts (klW (oc, idx, v)) (snd_in (P := fun x => klW x ∈ BG) klL_ok hx)
  have hmm : ∀ idx o : Nat, (oc, idx, o) ∈ mmL.map Prod.snd → (Jvm.Cond.methodLink (RXn oc) idx (libN o)).before args s = true := fun idx o hx => hts (mmW (oc, idx, o)) (snd_in (P := fun x => mmW x ∈ BG) mmL_ok hx)
  generalize hown' : RXn oc = own' at *
  unfold stp at h
  split at h <;> simp only [chkI] at hc
  · split at hc <;> first | cases hc | skip
    · rename_i hd
      obtain ⟨rfl, rfl⟩ := of_decide_eq_true hc
      exact w_const (own := own') hx hb (Or.inl ⟨hd, rfl⟩) h
    · rename_i hd
      obtain ⟨rfl, h1, rfl⟩ := of_decide_eq_true hc
      exact w_const (own := own') hx hb (Or.inr (Or.inl ⟨hd, h1, rfl⟩)) h
    · rename_i hd
      obtain ⟨rfl, h1, rfl⟩ := of_decide_eq_true hc
      exact w_const (own := own') hx hb (Or.inr (Or.inr (Or.inl ⟨hd, h1, rfl⟩))) h
    · rename_i hd
      obtain ⟨h1, rfl⟩ := of_decide_eq_true hc
      exact w_const (own := own') hx hb (Or.inr (Or.inr (Or.inr ⟨_, hd, hown, hkl _ _ h1, rfl⟩))) h
  · split at hc <;> first | cases hc | skip
    · rename_i hd
      obtain ⟨rfl, rfl⟩ := of_decide_eq_true hc
      exact w_load hx hb (Or.inl ⟨hd, rfl⟩) h
    · rename_i hd
      obtain ⟨rfl, rfl⟩ := of_decide_eq_true hc
      exact w_load hx hb (Or.inr ⟨_, hd, rfl, rfl⟩) h
  · split at hc <;> first | cases hc | skip
    · rename_i hd
      obtain ⟨rfl, rfl⟩ := of_decide_eq_true hc
      exact w_loadA hx hb (Or.inl ⟨hd, rfl⟩) h
    · rename_i hd
      obtain ⟨rfl, rfl⟩ := of_decide_eq_true hc
      exact w_loadA hx hb (Or.inr ⟨_, hd, rfl, rfl⟩) h
  · split at hc <;> first | cases hc | skip
    · rename_i hd
      obtain ⟨rfl, h1, rfl⟩ := of_decide_eq_true hc
      exact w_store hx hb h1 (Or.inl ⟨hd, rfl⟩) h
    · rename_i hd
      obtain ⟨rfl, h1, rfl⟩ := of_decide_eq_true hc
      exact w_store hx hb h1 (Or.inr ⟨_, hd, rfl, rfl⟩) h
  · split at hc <;> first | cases hc | skip
    · rename_i hd
      obtain ⟨rfl, h1, rfl⟩ := of_decide_eq_true hc
      exact w_storeA hx hb h1 (Or.inl ⟨hd, rfl⟩) h
    · rename_i hd
      obtain ⟨rfl, h1, rfl⟩ := of_decide_eq_true hc
      exact w_storeA hx hb h1 (Or.inr ⟨_, hd, rfl, rfl⟩) h
  · exact w_add hx hb (of_decide_eq_true hc) h
  · exact w_sub hx hb (of_decide_eq_true hc) h
  · exact w_mul hx hb (of_decide_eq_true hc) h
  · exact w_div hx hb (of_decide_eq_true hc) h
  · exact w_rem hx hb (of_decide_eq_true hc) h
  · exact w_neg hx hb (of_decide_eq_true hc) h
  · obtain ⟨h1, h2⟩ := of_decide_eq_true hc
    exact w_iinc hx hb h1 h2 h
  · exact w_dup hx hb (of_decide_eq_true hc) h
  · exact w_dup2 hx hb (of_decide_eq_true hc) h
  · exact w_pop hx hb (of_decide_eq_true hc) h
  · obtain ⟨h1, h2, h3⟩ := of_decide_eq_true hc
    exact w_if hx hb h1 h2 h3 h
  · obtain ⟨h1, h2, h3⟩ := of_decide_eq_true hc
    exact w_icmp hx hb h1 h2 h3 h
  · obtain ⟨h1, h2⟩ := of_decide_eq_true hc
    exact w_goto hx hb h1 h2 h
  · split at hc <;> first | cases hc | skip
    rename_i hd
    obtain ⟨h1, h2, h3, h4⟩ := of_decide_eq_true hc
    exact w_switch hx hb hd h1 h2 h3 h4 h
  · exact w_iald hx hb hK (of_decide_eq_true hc) h
  · exact w_cald hx hb hK (of_decide_eq_true hc) h
  · exact w_aald hx hb hK (of_decide_eq_true hc) h
  · exact w_iast hx hb hK hD (of_decide_eq_true hc) h
  · exact w_cast hx hb hK hD (of_decide_eq_true hc) h
  · obtain ⟨h1, h2, h3⟩ := of_decide_eq_true hc
    exact w_get hx hb hts hown hK ⟨h1, h2⟩ (hfl _ _ _ h3) h
  · obtain ⟨h1, h2, h3, h4⟩ := of_decide_eq_true hc
    exact w_put (ty := .int) hx hb hts hown hK hD ⟨h1, h2⟩ (hfl _ _ _ h3) (Or.inl ⟨rfl, h4⟩) h
  · obtain ⟨h1, h2, h3, h4⟩ := of_decide_eq_true hc
    exact w_put (ty := .boolean) hx hb hts hown hK hD ⟨h1, h2⟩ (hfl _ _ _ h3) (Or.inr ⟨by decide, h4⟩) h
  · exact w_i2c hx hb (of_decide_eq_true hc) h
  · obtain ⟨h1, h2, h3⟩ := of_decide_eq_true hc
    exact w_copy hx hb hml hown hK hD hR (hmm _ _ h3) (hts _ lb_copy_n) (hts _ lb_copy_s) (hts _ lb_sys) ⟨h1, h2⟩ h
  · obtain ⟨h1, h2, rfl, h4, h5⟩ := of_decide_eq_true hc
    have hy : m_X4_isWithin < NMs := by decide
    refine w_callN (host := RX4) (rm := rm) hx hb hml hts hown hC hSWb hSWH (fun as σ Q g1 g2 g3 g4 => hΓ _ as σ Q hy g1 g2 g3 g4) hrm hy rfl h4 ?_ ⟨h1, h2⟩ h
    · obtain ⟨rfl, e⟩ := h5
      rw [e, ← hown']
      exact hnest
  · obtain ⟨h1, h2, h3, h4, h5, h6, h7⟩ := of_decide_eq_true hc
    exact w_callV (rm := rm) hx hb hml hts hown hK hC hSWb hSWH (fun as σ Q g1 g2 g3 g4 => hΓ _ as σ Q h3 g1 g2 g3 g4) hrm h3 h4 h5 h6 (hmlk _ _ h7) ⟨h1, h2⟩ h
  · obtain ⟨h1, h2, h3, h4, h5, h7⟩ := of_decide_eq_true hc
    exact w_call (rm := rm) hx hb hml hts hown hC hSWb hSWH (fun as σ Q g1 g2 g3 g4 => hΓ _ as σ Q h3 g1 g2 g3 g4) hrm h3 h4 h5 (hmlk _ _ h7) ⟨h1, h2⟩ h
  · obtain ⟨h1, h2, h3⟩ := of_decide_eq_true hc
    exact w_min hx hb hml hown hR hC (hmm _ _ h3) (hts _ lb_min_s) (hts _ lb_math) (hts _ lb_min_c) ⟨h1, h2⟩ h
  · obtain ⟨h1, h2, h3⟩ := of_decide_eq_true hc
    exact w_max hx hb hml hown hR hC (hmm _ _ h3) (hts _ lb_max_s) (hts _ lb_math) (hts _ lb_max_c) ⟨h1, h2⟩ h
  · obtain ⟨h1, h2, h3⟩ := of_decide_eq_true hc
    exact w_abs hx hb hml hown hR hC (hmm _ _ h3) (hts _ lb_abs_s) (hts _ lb_math) (hts _ lb_abs_c) ⟨h1, h2⟩ h
  all_goals first | exact hsp rfl | exact h.elim | exact w_shr hx hb (of_decide_eq_true hc) h | exact w_and hx hb (of_decide_eq_true hc) h
end AMST
