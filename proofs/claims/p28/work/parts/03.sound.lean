/-! THE TWIN BESIDE THE MACHINE: what the store is in the heap; one step of the twin is one step of the machine -/
def conc (ad : Nat → Int → Nat) : AV → Value
  | .inl x => .int (Int32.ofInt x)
  | .inr (k, i) => .ref (ad k i)
def okv : AV → Prop
  | .inl _ => True
  | .inr (k, i) => 0 ≤ i ∧ i < cntK k
def nfK (k : Nat) : Nat := match k with
  | 0 => 4
  | 1 => 3
  | 2 => 4
  | 3 => 15
  | 16 => 9
  | _ => 17
def fldV (ad : Nat → Int → Nat) (g : Int → Int) (k : Nat) (i : Int) (f : Nat) : Value := match fldK k i f with
  | some (.inl r) => .ref (ad r.1 r.2)
  | _ => .int (Int32.ofInt (g f))
def rowV (g : Int → Int) : Nat → Int32 := fun j => Int32.ofInt (g j)
def cellE (ad : Nat → Int → Nat) (cy : Nat → ClassId) (σ : Sto) (k : Nat) (i : Int) : va_E := match clsK k with
  | some q => .inr (q, (List.range (nfK k)).map (fldV ad (σ k i) k i))
  | none => (match lenI k with
    | some n => .inl (cy 0, n.toNat, .inl (rowV (σ k i)))
    | none => (match lenC k with
      | some n => .inl (cy 1, n.toNat, .inl (rowV (σ k i)))
      | none => (match lenR k with
        | some n => .inl (cy (if k = 4 then 2 else 3), n.toNat, .inr (.inr (.inr (.inr (fun j => some (ad (refA k j).1 (refA k j).2))))))
        | none => .inr (0, []))))
def idsK : List (Nat × Int) := (List.range 36).flatMap fun k => (List.range (cntK k).toNat).map fun (i : Nat) => (k, (i : Int))
def cellsW (ad : Nat → Int → Nat) (cy : Nat → ClassId) (σ : Sto) : va_W := idsK.map fun q => (ad q.1 q.2, cellE ad cy σ q.1 q.2)
theorem ids_nodup : idsK.Nodup := by decide +kernel
theorem ids_mem {k : Nat} {i : Int} (hk : k < 36) (h0 : 0 ≤ i) (h1 : i < cntK k) : (k, i) ∈ idsK := by
  refine List.mem_flatMap.mpr ⟨k, List.mem_range.mpr hk, List.mem_map.mpr ⟨i.toNat, List.mem_range.mpr (by omega), ?_⟩⟩
  rw [Int.toNat_of_nonneg h0]
theorem ids_of {k : Nat} {i : Int} (h : (k, i) ∈ idsK) : k < 36 ∧ 0 ≤ i ∧ i < cntK k := by
  obtain ⟨a, ha, hb⟩ := List.mem_flatMap.mp h
  obtain ⟨b, hb1, hb2⟩ := List.mem_map.mp hb
  cases hb2
  have := List.mem_range.mp ha
  have := List.mem_range.mp hb1
  omega
theorem ids_at {k : Nat} {i : Int} (hk : k < 36) (h0 : 0 ≤ i) (h1 : i < cntK k) : ∃ q0 : Nat, idsK[q0]? = some (k, i) := List.getElem?_of_mem (ids_mem hk h0 h1)
theorem cells_get {ad : Nat → Int → Nat} {cy : Nat → ClassId} {q0 : Nat} {k : Nat} {i : Int} (h : idsK[q0]? = some (k, i)) (σ : Sto) : (cellsW ad cy σ)[q0]? = some (ad k i, cellE ad cy σ k i) := by
  unfold cellsW
  rw [List.getElem?_map, h]
  rfl
theorem cellE_congr {ad : Nat → Int → Nat} {cy : Nat → ClassId} {σ σ' : Sto} {k : Nat} {i : Int} (h : σ' k i = σ k i) : cellE ad cy σ' k i = cellE ad cy σ k i := by
  unfold cellE
  rw [h]
theorem cells_set {ad : Nat → Int → Nat} {cy : Nat → ClassId} {q0 : Nat} {k : Nat} {i : Int} (h : idsK[q0]? = some (k, i)) {σ σ' : Sto} (ho : ∀ (k' : Nat) (i' : Int), (k', i') ≠ (k, i) → σ' k' i' = σ k' i') : (cellsW ad cy σ).set q0 (ad k i, cellE ad cy σ' k i) = cellsW ad cy σ' := by
  have hl : q0 < idsK.length := (List.getElem?_eq_some_iff.mp h).1
  apply List.ext_getElem?
  intro n
  by_cases hn : n = q0
  · subst hn
    rw [List.getElem?_set_self (by unfold cellsW; rw [List.length_map]; exact hl), cells_get h]
  · rw [List.getElem?_set_ne (Ne.symm hn)]
    unfold cellsW
    rw [List.getElem?_map, List.getElem?_map]
    cases hq : idsK[n]? with
    | none => rfl
    | some q =>
      obtain ⟨k', i'⟩ := q
      have hne : (k', i') ≠ (k, i) := by
        intro e
        have hl' : n < idsK.length := (List.getElem?_eq_some_iff.mp hq).1
        exact hn ((List.getElem?_inj hl' ids_nodup).mp (by rw [hq, h, e]))
      show some (ad k' i', cellE ad cy σ k' i') = some (ad k' i', cellE ad cy σ' k' i')
      rw [cellE_congr (ho k' i' hne)]
theorem upS_row {σ : Sto} {k : Nat} {i j v : Int} : upS σ k i j v k i = fun j' => if j' = j then v else σ k i j' := by
  funext j'
  simp [upS]
theorem upS_off {σ : Sto} {k : Nat} {i j v : Int} {k' : Nat} {i' : Int} (h : (k', i') ≠ (k, i)) : upS σ k i j v k' i' = σ k' i' := by
  funext j'
  unfold upS
  rw [if_neg]
  intro e
  exact h (by rw [e.1, e.2.1])
theorem upS_in {σ : Sto} (hσ : ∀ k i j, inR (σ k i j)) {k : Nat} {i j v : Int} (hv : inR v) : ∀ k' i' j', inR (upS σ k i j v k' i' j') := by
  intro k' i' j'
  unfold upS
  split
  · exact hv
  · exact hσ _ _ _
theorem cpS_in {σ : Sto} (hσ : ∀ k i j, inR (σ k i j)) {k1 k2 : Nat} {i1 i2 sp dp n : Int} : ∀ k' i' j', inR (cpS σ k1 i1 sp k2 i2 dp n k' i' j') := by
  intro k' i' j'
  unfold cpS
  split
  · exact hσ _ _ _
  · exact hσ _ _ _
theorem cpS_off {σ : Sto} {k1 k2 : Nat} {i1 i2 sp dp n : Int} {k' : Nat} {i' : Int} (h : (k', i') ≠ (k2, i2)) : cpS σ k1 i1 sp k2 i2 dp n k' i' = σ k' i' := by
  funext j'
  unfold cpS
  rw [if_neg]
  intro e
  exact h (by rw [e.1, e.2.1])
/-! ints -/
theorem oi_toInt {x : Int} (h : inR x) : (Int32.ofInt x).toInt = x := Int32.toInt_ofInt_of_le (by omega) (by omega)
theorem oi_eq {x y : Int} (hx : inR x) (hy : inR y) : Int32.ofInt x = Int32.ofInt y ↔ x = y := by
  rw [← Int32.toInt_inj, oi_toInt hx, oi_toInt hy]
theorem oi_lt {x y : Int} (hx : inR x) (hy : inR y) : Int32.ofInt x < Int32.ofInt y ↔ x < y := by
  rw [Int32.lt_iff_toInt_lt, oi_toInt hx, oi_toInt hy]
theorem oi_le {x y : Int} (hx : inR x) (hy : inR y) : Int32.ofInt x ≤ Int32.ofInt y ↔ x ≤ y := by
  rw [Int32.le_iff_toInt_le, oi_toInt hx, oi_toInt hy]
theorem oi_nat {j : Int} (h0 : 0 ≤ j) : Int32.ofInt j = nI j.toNat := by
  show Int32.ofInt j = Int32.ofNat j.toNat
  rw [← Int32.ofInt_eq_ofNat, Int.toNat_of_nonneg h0]
theorem oi_cl {j : Int} (h0 : 0 ≤ j) (h1 : j ≤ 2147483647) : (Int32.ofInt j).toNatClampNeg = j.toNat := by
  rw [oi_nat h0, nI_clamp (by omega)]
theorem oi_in {j n : Int} (h0 : 0 ≤ j) (h1 : j < n) (hn : n ≤ 2147483647) : vp_in (Int32.ofInt j) n.toNat := by
  rw [oi_nat h0]
  exact vp_in_nI (by omega) (by omega)
theorem oi_0 : Int32.ofInt 0 = 0 := rfl
theorem oi_div {x y : Int} (hx : 0 ≤ x) (hx1 : x ≤ 2147483647) (hy : 0 < y) (hy1 : y ≤ 2147483647) : Int32.ofInt x / Int32.ofInt y = Int32.ofInt (x / y) := by
  rw [oi_nat hx, oi_nat (Int.le_of_lt hy), pk_div (by omega) (by omega) (by omega), oi_nat (Int.ediv_nonneg hx (Int.le_of_lt hy))]
  obtain ⟨a, rfl⟩ := Int.eq_ofNat_of_zero_le hx
  obtain ⟨b, rfl⟩ := Int.eq_ofNat_of_zero_le (Int.le_of_lt hy)
  rw [← Int.natCast_ediv]
  rfl
theorem oi_rem {x y : Int} (hx : 0 ≤ x) (hx1 : x ≤ 2147483647) (hy : 0 < y) (hy1 : y ≤ 2147483647) : Int32.ofInt x - Int32.ofInt x / Int32.ofInt y * Int32.ofInt y = Int32.ofInt (x % y) := by
  rw [oi_nat hx, oi_nat (Int.le_of_lt hy), pk_rem (by omega) (by omega) (by omega), oi_nat (Int.emod_nonneg _ (by omega))]
  obtain ⟨a, rfl⟩ := Int.eq_ofNat_of_zero_le hx
  obtain ⟨b, rfl⟩ := Int.eq_ofNat_of_zero_le (Int.le_of_lt hy)
  rw [← Int.natCast_emod]
  rfl
/-! locals -/
def lmp (ad : Nat → Int → Nat) (ls : List AV) : List (Nat × Value) := ls.zipIdx.map fun q => (q.2, conc ad q.1)
theorem lmp_mem {ad : Nat → Int → Nat} {ls : List AV} {k : Nat} {v : AV} (h : ls[k]? = some v) : (k, conc ad v) ∈ lmp ad ls :=
  List.mem_map.mpr ⟨(v, k), List.mem_zipIdx_iff_getElem?.mpr (by simpa using h), rfl⟩
theorem lmp_of {ad : Nat → Int → Nat} {ls : List AV} {q : Nat × Value} (h : q ∈ lmp ad ls) : ∃ v, ls[q.1]? = some v ∧ q.2 = conc ad v := by
  obtain ⟨⟨v, k⟩, h1, rfl⟩ := List.mem_map.mp h
  exact ⟨v, by simpa using List.mem_zipIdx_iff_getElem?.mp h1, rfl⟩
theorem lmp_at {ad : Nat → Int → Nat} {ls : List AV} {lsl : Array Slot} {nL k : Nat} {v : AV} (hl : lv_has lsl nL (lmp ad ls)) (h : ls[k]? = some v) : lsl[k]? = some (.val (conc ad v)) := hl.2.2 _ (lmp_mem h)
theorem setl_get : ∀ {ls : List AV} {k : Nat} {v : AV} {ls' : List AV}, setl ls k v = some ls' → ls'[k]? = some v ∧ ∀ j, j ≠ k → ∀ w, ls'[j]? = some w → ls[j]? = some w
  | [], 0, v, ls', h => by
    simp only [setl, Option.some.injEq] at h
    subst h
    refine ⟨rfl, fun j hj w hw => ?_⟩
    cases j with
    | zero => exact absurd rfl hj
    | succ j => simp at hw
  | [], _ + 1, _, _, h => by simp [setl] at h
  | a :: l, 0, v, ls', h => by
    simp only [setl, Option.some.injEq] at h
    subst h
    refine ⟨rfl, fun j hj w hw => ?_⟩
    cases j with
    | zero => exact absurd rfl hj
    | succ j => simpa using hw
  | a :: l, k + 1, v, ls', h => by
    simp only [setl] at h
    split at h
    · rename_i l' hl'
      simp only [Option.some.injEq] at h
      subst h
      obtain ⟨h1, h2⟩ := setl_get hl'
      refine ⟨by simpa using h1, fun j hj w hw => ?_⟩
      cases j with
      | zero => simpa using hw
      | succ j => simpa using h2 j (by omega) w (by simpa using hw)
    · cases h
theorem setl_ok {ls ls' : List AV} {k : Nat} {v : AV} (h : setl ls k v = some ls') (hls : ∀ w ∈ ls, okv w) (hv : okv v) : ∀ w ∈ ls', okv w := by
  intro w hw
  obtain ⟨j, hj⟩ := List.getElem?_of_mem hw
  obtain ⟨h1, h2⟩ := setl_get h
  by_cases e : j = k
  · subst e
    rw [h1] at hj
    cases hj
    exact hv
  · exact hls w (List.mem_of_getElem? (h2 j e w hj))
theorem lmp_set {ad : Nat → Int → Nat} {ls ls' : List AV} {lsl : Array Slot} {nL k : Nat} {v : AV} (h : setl ls k v = some ls') (hl : lv_has lsl nL ((k, conc ad v) :: (lmp ad ls).filter (fun q => !(q.1 == k) && !(q.1 + 1 == k && q.2.category == 2)))) : lv_has lsl nL (lmp ad ls') := by
  refine ⟨hl.1, hl.2.1, fun q hq => ?_⟩
  obtain ⟨w, h1, h2⟩ := lmp_of hq
  obtain ⟨g1, g2⟩ := setl_get h
  by_cases e : q.1 = k
  · rw [e, g1] at h1
    cases h1
    refine hl.2.2 q (List.mem_cons.mpr (Or.inl ?_))
    rw [← h2, ← e]
  · refine hl.2.2 q (List.mem_cons_of_mem _ (List.mem_filter.mpr ⟨?_, ?_⟩))
    · have := lmp_mem (ad := ad) (g2 _ e w h1)
      rw [← h2] at this
      exact this
    · have hc : (q.2.category == 2) = false := by
        rw [h2]
        cases w <;> rfl
      simp [e, hc]
section AMS
variable {p : Program} {l : Launch} {e : Env} {R : Room} {s : State} {m : MethodId} {args : Array Value} {below : List Frame} {meth : Method} {c : Code} {cells slots : Nat} {Qw : State → Prop} {ad : Nat → Int → Nat} {cy : Nat → ClassId} {D : va_G} {A0 : Nat → Prop} {H0 : Heap} {nL : Nat} {cc : ByteArray} {pc : Nat} {ls st : List AV} {σ σz : Sto} {own : String}
def tysW (cy : Nat → ClassId) : List (ClassId × FieldType) := [(cy 0, .int), (cy 1, .char), (cy 2, .object RX0), (cy 3, .array .int)]
def okS (σz σ : Sto) : Prop := (∀ k i j, inR (σ k i j)) ∧ ∀ (k : Nat) (i : Int), 36 ≤ k → σ k i = σz k i
def AMW (p : Program) (l : Launch) (e : Env) (R : Room) (s : State) (m : MethodId) (args : Array Value) (below : List Frame) (meth : Method) (c : Code) (cells slots : Nat) (Qw : State → Prop) (ad : Nat → Int → Nat) (cy : Nat → ClassId) (D : va_G) (A0 : Nat → Prop) (H0 : Heap) (nL : Nat) (σz : Sto) : Ctx := fun pc ls st σ =>
  ∀ (H : Heap) (locs : List Loc) (lsl : Array Slot), va_P D vwCl (cellsW ad cy σ) H → va_S A0 H0 H locs → lv_has lsl nL (lmp ad ls) → (∀ v ∈ ls, okv v) → (∀ v ∈ st, okv v) → okS σz σ →
    W p l e R s m args below meth c H locs cells slots Qw (F0 m pc lsl (st.map (conc ad)))
theorem ok_cons {v : AV} {st : List AV} (hv : okv v) (hst : ∀ w ∈ st, okv w) : ∀ w ∈ v :: st, okv w := fun w h => by
  rcases List.mem_cons.mp h with rfl | h
  · exact hv
  · exact hst w h
theorem ok_tail {v : AV} {st : List AV} (hst : ∀ w ∈ v :: st, okv w) : ∀ w ∈ st, okv w := fun w h => hst w (List.mem_cons_of_mem _ h)
theorem ok_head {v : AV} {st : List AV} (hst : ∀ w ∈ v :: st, okv w) : okv v := hst v List.mem_cons_self
theorem w_const {v : Int} {nx : Nat} (hx : p.tables.exec = Jvm.exec) (hb : c.code = cc) (hd : (decode cc pc = .ok (.iconst v, 1) ∧ nx = pc + 1) ∨ (decode cc pc = .ok (.bipush v, 2) ∧ (Int8.ofInt v).toInt32 = Int32.ofInt v ∧ nx = pc + 2) ∨ (decode cc pc = .ok (.sipush v, 3) ∧ (Int16.ofInt v).toInt32 = Int32.ofInt v ∧ nx = pc + 3) ∨ (∃ idx, decode cc pc = .ok (.ldc idx, 2) ∧ s.vm.findClass own = some m.cls ∧ (Jvm.Cond.constant own idx (Int32.ofInt v)).before args s = true ∧ nx = pc + 2)) (h : (AMW p l e R s m args below meth c cells slots Qw ad cy D A0 H0 nL σz) nx ls (.inl v :: st) σ) : (AMW p l e R s m args below meth c cells slots Qw ad cy D A0 H0 nL σz) pc ls st σ := by
  intro H locs lsl hP hS hl hls hst hσ
  have k := h H locs lsl hP hS hl hls (ok_cons trivial hst) hσ
  rcases hd with ⟨hd, rfl⟩ | ⟨hd, hv, rfl⟩ | ⟨hd, hv, rfl⟩ | ⟨idx, hd, ho, hcn, rfl⟩
  · exact lv_iconst hx hb hd rfl k
  · exact lv_bipush hx hb hd hv k
  · exact lv_sipush hx hb hd hv k
  · exact lv_ldc hx hb ho hcn hd k
theorem w_load {k nx : Nat} (hx : p.tables.exec = Jvm.exec) (hb : c.code = cc) (hd : (decode cc pc = .ok (.iload k, 2) ∧ nx = pc + 2) ∨ ∃ k' : Fin 4, decode cc pc = .ok (.iload_n k', 1) ∧ (k' : Nat) = k ∧ nx = pc + 1) (h : s_load (AMW p l e R s m args below meth c cells slots Qw ad cy D A0 H0 nL σz) ls st σ k nx) : (AMW p l e R s m args below meth c cells slots Qw ad cy D A0 H0 nL σz) pc ls st σ := by
  intro H locs lsl hP hS hl hls hst hσ
  unfold s_load at h
  split at h
  · rename_i x hx1
    have h1 := lmp_at hl hx1
    have k := h H locs lsl hP hS hl hls (ok_cons trivial hst) hσ
    rcases hd with ⟨hd, rfl⟩ | ⟨k', hd, hk, rfl⟩
    · exact lv_iload hx hb hd h1 k
    · exact lv_iload_n hx hb hd hk h1 k
  · exact h.elim
theorem w_loadA {k nx : Nat} (hx : p.tables.exec = Jvm.exec) (hb : c.code = cc) (hd : (decode cc pc = .ok (.aload k, 2) ∧ nx = pc + 2) ∨ ∃ k' : Fin 4, decode cc pc = .ok (.aload_n k', 1) ∧ (k' : Nat) = k ∧ nx = pc + 1) (h : s_loadA (AMW p l e R s m args below meth c cells slots Qw ad cy D A0 H0 nL σz) ls st σ k nx) : (AMW p l e R s m args below meth c cells slots Qw ad cy D A0 H0 nL σz) pc ls st σ := by
  intro H locs lsl hP hS hl hls hst hσ
  unfold s_loadA at h
  split at h
  · rename_i x hx1
    have h1 := lmp_at hl hx1
    have k := h H locs lsl hP hS hl hls (ok_cons (hls _ (List.mem_of_getElem? hx1)) hst) hσ
    obtain ⟨x1, x2⟩ := x
    rcases hd with ⟨hd, rfl⟩ | ⟨k', hd, hk, rfl⟩
    · exact lv_aload hx hb hd h1 k
    · exact lv_aload_n hx hb hd hk h1 k
  · exact h.elim
theorem w_store {k nx : Nat} (hx : p.tables.exec = Jvm.exec) (hb : c.code = cc) (hk : k < nL) (hd : (decode cc pc = .ok (.istore k, 2) ∧ nx = pc + 2) ∨ ∃ k' : Fin 4, decode cc pc = .ok (.istore_n k', 1) ∧ (k' : Nat) = k ∧ nx = pc + 1) (h : s_store (AMW p l e R s m args below meth c cells slots Qw ad cy D A0 H0 nL σz) ls st σ k nx) : (AMW p l e R s m args below meth c cells slots Qw ad cy D A0 H0 nL σz) pc ls st σ := by
  intro H locs lsl hP hS hl hls hst hσ
  unfold s_store at h
  split at h
  · rename_i x st'
    split at h
    · rename_i ls' hs
      have kk := fun (lsl' : Array Slot) hl' => h H locs lsl' hP hS (lmp_set hs hl') (setl_ok hs hls trivial) (ok_tail hst) hσ
      rcases hd with ⟨hd, rfl⟩ | ⟨k', hd, hk', rfl⟩
      · exact lv_istore hx hb hd hl hk rfl kk
      · exact lv_istore_n hx hb hd hk' hl hk rfl kk
    · exact h.elim
  · exact h.elim
theorem w_storeA {k nx : Nat} (hx : p.tables.exec = Jvm.exec) (hb : c.code = cc) (hk : k < nL) (hd : (decode cc pc = .ok (.astore k, 2) ∧ nx = pc + 2) ∨ ∃ k' : Fin 4, decode cc pc = .ok (.astore_n k', 1) ∧ (k' : Nat) = k ∧ nx = pc + 1) (h : s_storeA (AMW p l e R s m args below meth c cells slots Qw ad cy D A0 H0 nL σz) ls st σ k nx) : (AMW p l e R s m args below meth c cells slots Qw ad cy D A0 H0 nL σz) pc ls st σ := by
  intro H locs lsl hP hS hl hls hst hσ
  unfold s_storeA at h
  split at h
  · rename_i x st'
    split at h
    · rename_i ls' hs
      obtain ⟨x1, x2⟩ := x
      have kk := fun (lsl' : Array Slot) hl' => h H locs lsl' hP hS (lmp_set hs hl') (setl_ok hs hls (ok_head hst)) (ok_tail hst) hσ
      rcases hd with ⟨hd, rfl⟩ | ⟨k', hd, hk', rfl⟩
      · exact lv_astore hx hb hd hl hk rfl kk
      · exact lv_astore_n hx hb hd hk' hl hk rfl kk
    · exact h.elim
  · exact h.elim
theorem w_iinc {k nx : Nat} {n : Int} (hx : p.tables.exec = Jvm.exec) (hb : c.code = cc) (hk : k < nL) (hd : decode cc pc = .ok (.iinc k n, 3) ∧ nx = pc + 3) (h : s_iinc (AMW p l e R s m args below meth c cells slots Qw ad cy D A0 H0 nL σz) ls st σ k n nx) : (AMW p l e R s m args below meth c cells slots Qw ad cy D A0 H0 nL σz) pc ls st σ := by
  intro H locs lsl hP hS hl hls hst hσ
  unfold s_iinc at h
  split at h
  · rename_i x hx1
    split at h
    · rename_i ls' hs
      obtain ⟨hd, rfl⟩ := hd
      obtain ⟨q, hq⟩ := List.getElem?_of_mem (lmp_mem (ad := ad) hx1)
      exact lv_iinc hx hb hd hl hq (by rw [← Int32.ofInt_add]) hk rfl (fun lsl' hl' => h H locs lsl' hP hS (lmp_set hs hl') (setl_ok hs hls trivial) hst hσ)
    · exact h.elim
  · exact h.elim
theorem w_add {nx : Nat} (hx : p.tables.exec = Jvm.exec) (hb : c.code = cc) (hd : decode cc pc = .ok (.iadd, 1) ∧ nx = pc + 1) (h : s_add (AMW p l e R s m args below meth c cells slots Qw ad cy D A0 H0 nL σz) ls st σ nx) : (AMW p l e R s m args below meth c cells slots Qw ad cy D A0 H0 nL σz) pc ls st σ := by
  intro H locs lsl hP hS hl hls hst hσ
  unfold s_add at h
  split at h
  · obtain ⟨hd, rfl⟩ := hd
    have k := h H locs lsl hP hS hl hls (ok_cons trivial (ok_tail (ok_tail hst))) hσ
    simp only [List.map_cons, conc, Int32.ofInt_add] at k
    exact lv_iadd hx hb hd k
  · exact h.elim
theorem w_sub {nx : Nat} (hx : p.tables.exec = Jvm.exec) (hb : c.code = cc) (hd : decode cc pc = .ok (.isub, 1) ∧ nx = pc + 1) (h : s_sub (AMW p l e R s m args below meth c cells slots Qw ad cy D A0 H0 nL σz) ls st σ nx) : (AMW p l e R s m args below meth c cells slots Qw ad cy D A0 H0 nL σz) pc ls st σ := by
  intro H locs lsl hP hS hl hls hst hσ
  unfold s_sub at h
  split at h
  · obtain ⟨hd, rfl⟩ := hd
    have k := h H locs lsl hP hS hl hls (ok_cons trivial (ok_tail (ok_tail hst))) hσ
    simp only [List.map_cons, conc, Int32.ofInt_sub] at k
    exact lv_isub hx hb hd k
  · exact h.elim
theorem w_mul {nx : Nat} (hx : p.tables.exec = Jvm.exec) (hb : c.code = cc) (hd : decode cc pc = .ok (.imul, 1) ∧ nx = pc + 1) (h : s_mul (AMW p l e R s m args below meth c cells slots Qw ad cy D A0 H0 nL σz) ls st σ nx) : (AMW p l e R s m args below meth c cells slots Qw ad cy D A0 H0 nL σz) pc ls st σ := by
  intro H locs lsl hP hS hl hls hst hσ
  unfold s_mul at h
  split at h
  · obtain ⟨hd, rfl⟩ := hd
    have k := h H locs lsl hP hS hl hls (ok_cons trivial (ok_tail (ok_tail hst))) hσ
    simp only [List.map_cons, conc, Int32.ofInt_mul] at k
    exact lv_imul hx hb hd k
  · exact h.elim
theorem w_neg {nx : Nat} (hx : p.tables.exec = Jvm.exec) (hb : c.code = cc) (hd : decode cc pc = .ok (.ineg, 1) ∧ nx = pc + 1) (h : s_neg (AMW p l e R s m args below meth c cells slots Qw ad cy D A0 H0 nL σz) ls st σ nx) : (AMW p l e R s m args below meth c cells slots Qw ad cy D A0 H0 nL σz) pc ls st σ := by
  intro H locs lsl hP hS hl hls hst hσ
  unfold s_neg at h
  split at h
  · obtain ⟨hd, rfl⟩ := hd
    have k := h H locs lsl hP hS hl hls (ok_cons trivial (ok_tail hst)) hσ
    simp only [List.map_cons, conc, Int32.ofInt_neg] at k
    exact lv_ineg hx hb hd k
  · exact h.elim
theorem w_div {nx : Nat} (hx : p.tables.exec = Jvm.exec) (hb : c.code = cc) (hd : decode cc pc = .ok (.idiv, 1) ∧ nx = pc + 1) (h : s_idiv (AMW p l e R s m args below meth c cells slots Qw ad cy D A0 H0 nL σz) ls st σ nx) : (AMW p l e R s m args below meth c cells slots Qw ad cy D A0 H0 nL σz) pc ls st σ := by
  intro H locs lsl hP hS hl hls hst hσ
  unfold s_idiv at h
  split at h
  · rename_i y x st'
    obtain ⟨hd, rfl⟩ := hd
    obtain ⟨⟨h1, h2, h3, h4⟩, h⟩ := h
    have k := h H locs lsl hP hS hl hls (ok_cons trivial (ok_tail (ok_tail hst))) hσ
    simp only [List.map_cons, conc, ← oi_div h1 h2 h3 h4] at k
    refine lv_idiv hx hb hd ?_ k
    rw [← oi_0, oi_eq (by omega) (by omega)]
    omega
  · exact h.elim
theorem w_rem {nx : Nat} (hx : p.tables.exec = Jvm.exec) (hb : c.code = cc) (hd : decode cc pc = .ok (.irem, 1) ∧ nx = pc + 1) (h : s_irem (AMW p l e R s m args below meth c cells slots Qw ad cy D A0 H0 nL σz) ls st σ nx) : (AMW p l e R s m args below meth c cells slots Qw ad cy D A0 H0 nL σz) pc ls st σ := by
  intro H locs lsl hP hS hl hls hst hσ
  unfold s_irem at h
  split at h
  · rename_i y x st'
    obtain ⟨hd, rfl⟩ := hd
    obtain ⟨⟨h1, h2, h3, h4⟩, h⟩ := h
    have k := h H locs lsl hP hS hl hls (ok_cons trivial (ok_tail (ok_tail hst))) hσ
    simp only [List.map_cons, conc, ← oi_rem h1 h2 h3 h4] at k
    refine lv_irem hx hb hd ?_ k
    rw [← oi_0, oi_eq (by omega) (by omega)]
    omega
  · exact h.elim
theorem cat1 (v : AV) : (conc ad v).category = 1 := by
  rcases v with x | ⟨k, i⟩ <;> rfl
theorem w_dup {nx : Nat} (hx : p.tables.exec = Jvm.exec) (hb : c.code = cc) (hd : decode cc pc = .ok (.dup, 1) ∧ nx = pc + 1) (h : s_dup (AMW p l e R s m args below meth c cells slots Qw ad cy D A0 H0 nL σz) ls st σ nx) : (AMW p l e R s m args below meth c cells slots Qw ad cy D A0 H0 nL σz) pc ls st σ := by
  intro H locs lsl hP hS hl hls hst hσ
  unfold s_dup at h
  split at h
  · obtain ⟨hd, rfl⟩ := hd
    exact lv_dup hx hb hd (cat1 _) (h H locs lsl hP hS hl hls (ok_cons (ok_head hst) hst) hσ)
  · exact h.elim
theorem w_dup2 {nx : Nat} (hx : p.tables.exec = Jvm.exec) (hb : c.code = cc) (hd : decode cc pc = .ok (.dup2, 1) ∧ nx = pc + 1) (h : s_dup2 (AMW p l e R s m args below meth c cells slots Qw ad cy D A0 H0 nL σz) ls st σ nx) : (AMW p l e R s m args below meth c cells slots Qw ad cy D A0 H0 nL σz) pc ls st σ := by
  intro H locs lsl hP hS hl hls hst hσ
  unfold s_dup2 at h
  split at h
  · obtain ⟨hd, rfl⟩ := hd
    exact lv_dup2_11 hx hb hd (cat1 _) (cat1 _) (h H locs lsl hP hS hl hls (ok_cons (ok_head hst) (ok_cons (ok_head (ok_tail hst)) hst)) hσ)
  · exact h.elim
theorem w_pop {nx : Nat} (hx : p.tables.exec = Jvm.exec) (hb : c.code = cc) (hd : decode cc pc = .ok (.pop, 1) ∧ nx = pc + 1) (h : s_pop (AMW p l e R s m args below meth c cells slots Qw ad cy D A0 H0 nL σz) ls st σ nx) : (AMW p l e R s m args below meth c cells slots Qw ad cy D A0 H0 nL σz) pc ls st σ := by
  intro H locs lsl hP hS hl hls hst hσ
  unfold s_pop at h
  split at h
  · obtain ⟨hd, rfl⟩ := hd
    exact lv_pop hx hb hd (cat1 _) (h H locs lsl hP hS hl hls (ok_tail hst) hσ)
  · exact h.elim
theorem w_goto {tgt : Nat} {off : Int} (hx : p.tables.exec = Jvm.exec) (hb : c.code = cc) (hd : decode cc pc = .ok (.goto off, 3)) (ht : (pc : Int) + off = (tgt : Int)) (h : (AMW p l e R s m args below meth c cells slots Qw ad cy D A0 H0 nL σz) tgt ls st σ) : (AMW p l e R s m args below meth c cells slots Qw ad cy D A0 H0 nL σz) pc ls st σ := by
  intro H locs lsl hP hS hl hls hst hσ
  exact lv_goto hx hb hd ht (h H locs lsl hP hS hl hls hst hσ)
def cnd (k : Nat) : ClassFile.Cond := match k with
  | 0 => .eq
  | 1 => .ne
  | 2 => .lt
  | 3 => .ge
  | 4 => .gt
  | _ => .le
theorem w_if {cond tgt nx : Nat} {off : Int} (hx : p.tables.exec = Jvm.exec) (hb : c.code = cc) (hd : decode cc pc = .ok (.ifCond (cnd cond) off, 3)) (ht : (pc : Int) + off = (tgt : Int)) (hn : nx = pc + 3) (h : s_if (AMW p l e R s m args below meth c cells slots Qw ad cy D A0 H0 nL σz) ls st σ cond tgt nx) : (AMW p l e R s m args below meth c cells slots Qw ad cy D A0 H0 nL σz) pc ls st σ := by
  intro H locs lsl hP hS hl hls hst hσ
  subst hn
  unfold s_if at h
  split at h
  · rename_i x st'
    obtain ⟨hr, h⟩ := h
    have e0 : inR 0 := by omega
    have kt := fun (g : (AMW p l e R s m args below meth c cells slots Qw ad cy D A0 H0 nL σz) tgt ls st' σ) => g H locs lsl hP hS hl hls (ok_tail hst) hσ
    have kf := fun (g : (AMW p l e R s m args below meth c cells slots Qw ad cy D A0 H0 nL σz) (pc + 3) ls st' σ) => g H locs lsl hP hS hl hls (ok_tail hst) hσ
    unfold brc at h
    unfold cnd at hd
    split at h <;> try dsimp only at hd
    · exact lv_if_eq hx hb hd ht (fun q => kt (h.1 ((oi_eq hr e0).mp q))) (fun q => kf (h.2 (fun z => q ((oi_eq hr e0).mpr z))))
    · exact lv_if_ne hx hb hd ht (fun q => kt (h.1 (fun z => q ((oi_eq hr e0).mpr z)))) (fun q => kf (h.2 (by first | exact ((oi_eq hr e0).mp q) | exact ((oi_eq hr e0).mp (Classical.not_not.mp q)))))
    · exact lv_if_lt hx hb hd ht (fun q => kt (h.1 ((oi_lt hr e0).mp q))) (fun q => kf (h.2 (Int.not_lt.mp (fun z => q ((oi_lt hr e0).mpr z)))))
    · exact lv_if_ge hx hb hd ht (fun q => kt (h.1 ((oi_le e0 hr).mp q))) (fun q => kf (h.2 (Int.not_le.mp (fun z => q ((oi_le e0 hr).mpr z)))))
    · exact lv_if_gt hx hb hd ht (fun q => kt (h.1 ((oi_lt e0 hr).mp q))) (fun q => kf (h.2 (Int.not_lt.mp (fun z => q ((oi_lt e0 hr).mpr z)))))
    · have hd2 : decode cc pc = .ok (.ifCond .le off, 3) := by
        rw [hd]
        congr 3
        split <;> first | rfl | (exfalso; omega) | contradiction
      exact lv_if_le hx hb hd2 ht (fun q => kt (h.1 ((oi_le hr e0).mp q))) (fun q => kf (h.2 (Int.not_le.mp (fun z => q ((oi_le hr e0).mpr z)))))
  · exact h.elim
theorem w_icmp {cond tgt nx : Nat} {off : Int} (hx : p.tables.exec = Jvm.exec) (hb : c.code = cc) (hd : decode cc pc = .ok (.if_icmp (cnd cond) off, 3)) (ht : (pc : Int) + off = (tgt : Int)) (hn : nx = pc + 3) (h : s_icmp (AMW p l e R s m args below meth c cells slots Qw ad cy D A0 H0 nL σz) ls st σ cond tgt nx) : (AMW p l e R s m args below meth c cells slots Qw ad cy D A0 H0 nL σz) pc ls st σ := by
  intro H locs lsl hP hS hl hls hst hσ
  subst hn
  unfold s_icmp at h
  split at h
  · rename_i y x st'
    obtain ⟨⟨hr, e0⟩, h⟩ := h
    have kt := fun (g : (AMW p l e R s m args below meth c cells slots Qw ad cy D A0 H0 nL σz) tgt ls st' σ) => g H locs lsl hP hS hl hls (ok_tail (ok_tail hst)) hσ
    have kf := fun (g : (AMW p l e R s m args below meth c cells slots Qw ad cy D A0 H0 nL σz) (pc + 3) ls st' σ) => g H locs lsl hP hS hl hls (ok_tail (ok_tail hst)) hσ
    unfold brc at h
    unfold cnd at hd
    split at h <;> try dsimp only at hd
    · exact lv_icmp_eq hx hb hd ht (fun q => kt (h.1 ((oi_eq hr e0).mp q))) (fun q => kf (h.2 (fun z => q ((oi_eq hr e0).mpr z))))
    · exact lv_icmp_ne hx hb hd ht (fun q => kt (h.1 (fun z => q ((oi_eq hr e0).mpr z)))) (fun q => kf (h.2 (by first | exact ((oi_eq hr e0).mp q) | exact ((oi_eq hr e0).mp (Classical.not_not.mp q)))))
    · exact lv_icmp_lt hx hb hd ht (fun q => kt (h.1 ((oi_lt hr e0).mp q))) (fun q => kf (h.2 (Int.not_lt.mp (fun z => q ((oi_lt hr e0).mpr z)))))
    · exact lv_icmp_ge hx hb hd ht (fun q => kt (h.1 ((oi_le e0 hr).mp q))) (fun q => kf (h.2 (Int.not_le.mp (fun z => q ((oi_le e0 hr).mpr z)))))
    · exact lv_icmp_gt hx hb hd ht (fun q => kt (h.1 ((oi_lt e0 hr).mp q))) (fun q => kf (h.2 (Int.not_lt.mp (fun z => q ((oi_lt e0 hr).mpr z)))))
    · have hd2 : decode cc pc = .ok (.if_icmp .le off, 3) := by
        rw [hd]
        congr 3
        split <;> first | rfl | (exfalso; omega) | contradiction
      exact lv_icmp_le hx hb hd2 ht (fun q => kt (h.1 ((oi_le hr e0).mp q))) (fun q => kf (h.2 (Int.not_le.mp (fun z => q ((oi_le hr e0).mpr z)))))
  · exact h.elim
theorem w_i2c {nx : Nat} (hx : p.tables.exec = Jvm.exec) (hb : c.code = cc) (hd : decode cc pc = .ok (.i2c, 1) ∧ nx = pc + 1) (h : s_i2c (AMW p l e R s m args below meth c cells slots Qw ad cy D A0 H0 nL σz) ls st σ nx) : (AMW p l e R s m args below meth c cells slots Qw ad cy D A0 H0 nL σz) pc ls st σ := by
  intro H locs lsl hP hS hl hls hst hσ
  unfold s_i2c at h
  split at h
  · rename_i x st'
    obtain ⟨hd, rfl⟩ := hd
    obtain ⟨⟨h1, h2⟩, h⟩ := h
    refine lv_i2c hx hb hd (v := Int32.ofInt x) ?_ (h H locs lsl hP hS hl hls (ok_cons trivial (ok_tail hst)) hσ)
    rw [oi_nat h1, pk_char, pk_tn (by omega), Nat.mod_eq_of_lt (by omega)]
  · exact h.elim
theorem and_M (x : Int) : Int32.ofInt x &&& Int32.ofInt 2147483647 = Int32.ofInt (x % 2147483648) := by
  apply Int32.toBitVec_inj.mp
  show BitVec.ofInt 32 x &&& BitVec.ofInt 32 2147483647 = BitVec.ofInt 32 (x % 2147483648)
  apply BitVec.eq_of_toNat_eq
  rw [BitVec.toNat_and, BitVec.toNat_ofInt, BitVec.toNat_ofInt, BitVec.toNat_ofInt]
  have e : ((2147483647 : Int) % ((2 ^ 32 : Nat) : Int)).toNat = 2 ^ 31 - 1 := by decide
  rw [e, Nat.and_two_pow_sub_one_eq_mod]
  omega
theorem shr_M {x : Int} (h0 : 0 ≤ x) (h1 : x ≤ 2147483647) : Int32.ofInt x >>> (Int32.ofInt 6 &&& 31) = Int32.ofInt (x / 64) := by
  rw [oi_nat h0, pk_shrN (by omega) _ 6 (by decide +kernel), oi_nat (show 0 ≤ x / 64 by omega)]
  congr 1
  omega
theorem w_and {nx : Nat} (hx : p.tables.exec = Jvm.exec) (hb : c.code = cc) (hd : decode cc pc = .ok (.iand, 1) ∧ nx = pc + 1) (h : s_and (AMW p l e R s m args below meth c cells slots Qw ad cy D A0 H0 nL σz) ls st σ nx) : (AMW p l e R s m args below meth c cells slots Qw ad cy D A0 H0 nL σz) pc ls st σ := by
  intro H locs lsl hP hS hl hls hst hσ
  unfold s_and at h
  split at h
  · obtain ⟨hd, rfl⟩ := hd
    obtain ⟨rfl, h⟩ := h
    have k := h H locs lsl hP hS hl hls (ok_cons trivial (ok_tail (ok_tail hst))) hσ
    simp only [List.map_cons, conc, ← and_M] at k
    exact lv_iand hx hb hd k
  · exact h.elim
theorem w_shr {nx : Nat} (hx : p.tables.exec = Jvm.exec) (hb : c.code = cc) (hd : decode cc pc = .ok (.ishr, 1) ∧ nx = pc + 1) (h : s_shr (AMW p l e R s m args below meth c cells slots Qw ad cy D A0 H0 nL σz) ls st σ nx) : (AMW p l e R s m args below meth c cells slots Qw ad cy D A0 H0 nL σz) pc ls st σ := by
  intro H locs lsl hP hS hl hls hst hσ
  unfold s_shr at h
  split at h
  · obtain ⟨hd, rfl⟩ := hd
    obtain ⟨⟨rfl, h0, h1⟩, h⟩ := h
    have k := h H locs lsl hP hS hl hls (ok_cons trivial (ok_tail (ok_tail hst))) hσ
    simp only [List.map_cons, conc, ← shr_M h0 h1] at k
    exact lv_ishr hx hb hd k
  · exact h.elim
end AMS
