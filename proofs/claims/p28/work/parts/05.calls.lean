/-! FIELDS, ARRAYS, CALLS of the twin beside the machine -/
theorem fld_some {k : Nat} {i : Int} {f : Nat} {x : (Nat × Int) ⊕ Int} (h : fldK k i f = some x) : ∃ q, clsK k = some q ∧ f < nfK k ∧ k < 36 ∧ vwCl[q]? = some (RXn q, TXn q, nfK k) := by
  unfold fldK at h
  split at h <;> first | (cases h; done) | exact ⟨_, rfl, by decide, by decide, rfl⟩
theorem fld_ref {k : Nat} {i : Int} {f : Nat} {r : Nat × Int} (h : fldK k i f = some (.inl r)) (h0 : 0 ≤ i) (h1 : i < cntK k) : okv (.inr r) := by
  unfold fldK at h
  split at h <;> first | (cases h; done) | (cases h; exact ⟨by decide, by decide⟩) | (cases h; exact ⟨h0, h1⟩)
theorem fld_slot {k : Nat} {i j : Int} {f : Nat} (h : fldK k i f = some (.inr j)) : j = (f : Int) := by
  unfold fldK at h
  split at h <;> first | (cases h; done) | (cases h; rfl)
theorem fld_int {k : Nat} {i j : Int} {f : Nat} (h : fldK k i f = some (.inr j)) {q : Nat} (hq : clsK k = some q) : (TXn q f).2.2.2 = false := by
  unfold fldK at h
  split at h <;> first | (cases h; done) | (cases hq; rfl)
theorem cls_lt {k q : Nat} (h : clsK k = some q) : k < 36 ∧ q < 6 := by
  unfold clsK at h
  split at h <;> first | (cases h; done) | (cases h; exact ⟨by decide, by decide⟩)
theorem cls_vw {k q : Nat} (h : clsK k = some q) : vwCl[q]? = some (RXn q, TXn q, nfK k) := by
  unfold clsK at h
  split at h <;> first | (cases h; done) | (cases h; rfl)
theorem lenI_of {k : Nat} {n : Int} (h : lenI k = some n) : clsK k = none ∧ k < 36 ∧ 0 ≤ n ∧ n ≤ 30651 := by
  unfold lenI at h
  split at h <;> first | (cases h; exact ⟨rfl, by decide, by decide, by decide⟩) | cases h
theorem lenC_of {k : Nat} {n : Int} (h : lenC k = some n) : clsK k = none ∧ lenI k = none ∧ k < 36 ∧ 0 ≤ n ∧ n ≤ 30651 := by
  unfold lenC at h
  split at h <;> first | (cases h; exact ⟨rfl, rfl, by decide, by decide, by decide⟩) | cases h
theorem lenR_of {k : Nat} {n : Int} (h : lenR k = some n) : clsK k = none ∧ lenI k = none ∧ lenC k = none ∧ k < 36 ∧ 0 ≤ n ∧ n ≤ 30651 ∧ ∀ j, 0 ≤ j → j < n → okv (.inr (refA k j)) := by
  unfold lenR at h
  split at h
  · cases h
    refine ⟨rfl, rfl, rfl, by decide, by decide, by decide, fun j h0 h1 => ?_⟩
    show 0 ≤ 2 + j ∧ 2 + j < 8
    omega
  · cases h
    refine ⟨rfl, rfl, rfl, by decide, by decide, by decide, fun j h0 h1 => ?_⟩
    show 0 ≤ j ∧ j < 51
    omega
  · cases h
    refine ⟨rfl, rfl, rfl, by decide, by decide, by decide, fun j h0 h1 => ?_⟩
    show 0 ≤ j ∧ j < 51
    omega
  · cases h
theorem cellE_O {ad : Nat → Int → Nat} {cy : Nat → ClassId} {σ : Sto} {k : Nat} {i : Int} {q : Nat} (h : clsK k = some q) : cellE ad cy σ k i = .inr (q, (List.range (nfK k)).map (fldV ad (σ k i) k i)) := by
  unfold cellE
  rw [h]
theorem cellE_I {ad : Nat → Int → Nat} {cy : Nat → ClassId} {σ : Sto} {k : Nat} {i : Int} {n : Int} (h : lenI k = some n) : cellE ad cy σ k i = .inl (cy 0, n.toNat, .inl (rowV (σ k i))) := by
  unfold cellE
  rw [(lenI_of h).1, h]
theorem cellE_C {ad : Nat → Int → Nat} {cy : Nat → ClassId} {σ : Sto} {k : Nat} {i : Int} {n : Int} (h : lenC k = some n) : cellE ad cy σ k i = .inl (cy 1, n.toNat, .inl (rowV (σ k i))) := by
  unfold cellE
  rw [(lenC_of h).1, (lenC_of h).2.1, h]
theorem cellE_R {ad : Nat → Int → Nat} {cy : Nat → ClassId} {σ : Sto} {k : Nat} {i : Int} {n : Int} (h : lenR k = some n) : cellE ad cy σ k i = .inl (cy (if k = 4 then 2 else 3), n.toNat, .inr (.inr (.inr (.inr (fun j => some (ad (refA k j).1 (refA k j).2)))))) := by
  unfold cellE
  rw [(lenR_of h).1, (lenR_of h).2.1, (lenR_of h).2.2.1, h]
theorem cls_facts {q : Nat} {C : String} {T : u_T} {N : Nat} (h : vwCl[q]? = some (C, T, N)) : (∀ w ∈ u_ws C T N, w ∈ BG) ∧ (∃ ty : Nat → FieldType, ∀ k, k < N → parseFieldDescriptor (T k).2.2.1 = some (ty k)) ∧ (∀ a, a < N → ∀ b, b < N → a ≠ b → (T a).2.1 ≠ (T b).2.1) := by
  match q, h with
  | 0, h => cases h; exact ⟨uw0, ⟨tyX0, tyX0_ok⟩, nmX0⟩
  | 1, h => cases h; exact ⟨uw1, ⟨tyX1, tyX1_ok⟩, nmX1⟩
  | 2, h => cases h; exact ⟨uw2, ⟨tyX2, tyX2_ok⟩, nmX2⟩
  | 3, h => cases h; exact ⟨uw3, ⟨tyX3, tyX3_ok⟩, nmX3⟩
  | 4, h => cases h; exact ⟨uw4, ⟨tyX4, tyX4_ok⟩, nmX4⟩
  | q + 5, h => simp [vwCl] at h
theorem okS_up {σz σ : Sto} (h : okS σz σ) {k : Nat} {i j v : Int} (hk : k < 36) (hv : inR v) : okS σz (upS σ k i j v) :=
  ⟨upS_in h.1 hv, fun k' i' hk' => by rw [upS_off (by intro e; cases e; omega)]; exact h.2 k' i' hk'⟩
theorem obj_set {ad : Nat → Int → Nat} {g : Int → Int} {k : Nat} {i : Int} {f n : Nat} {v j0 : Int} (h : fldK k i f = some (.inr j0)) : ((List.range n).map (fldV ad g k i)).set f (.int (Int32.ofInt v)) = (List.range n).map (fldV ad (fun j => if j = (f : Int) then v else g j) k i) := by
  apply List.ext_getElem?
  intro a
  by_cases ha : a = f
  · subst ha
    by_cases hn : a < n
    · rw [List.getElem?_set_self (by simpa using hn), List.getElem?_map, List.getElem?_range hn]
      simp [fldV, h]
    · rw [List.getElem?_eq_none (by simp; omega), List.getElem?_eq_none (by simp; omega)]
  · rw [List.getElem?_set_ne (Ne.symm ha), List.getElem?_map, List.getElem?_map]
    by_cases hn : a < n
    · rw [List.getElem?_range hn]
      have hne : ¬ (a : Int) = (f : Int) := by omega
      simp only [Option.map_some, fldV, if_neg hne]
    · rw [List.getElem?_eq_none (by simp; omega)]
      rfl
theorem row_set {g : Int → Int} {j v : Int} (h0 : 0 ≤ j) : upd (rowV g) j.toNat (Int32.ofInt v) = rowV (fun j' => if j' = j then v else g j') := by
  funext a
  unfold upd rowV
  dsimp only
  by_cases h : a = j.toNat
  · rw [if_pos h, if_pos (by omega)]
  · rw [if_neg h, if_neg (by omega)]
theorem row_at {g : Int → Int} {j : Int} (h0 : 0 ≤ j) : rowV g j.toNat = Int32.ofInt (g j) := by
  unfold rowV
  rw [Int.toNat_of_nonneg h0]
section AMF
variable {p : Program} {l : Launch} {e : Env} {R : Room} {s : State} {m : MethodId} {args : Array Value} {below : List Frame} {meth : Method} {c : Code} {cells slots : Nat} {Qw : State → Prop} {ad : Nat → Int → Nat} {cy : Nat → ClassId} {D : va_G} {A0 : Nat → Prop} {H0 : Heap} {nL : Nat} {cc : ByteArray} {pc : Nat} {ls st : List AV} {σ σz : Sto} {own : String}
theorem w_get {ci f nx idx : Nat} (hx : p.tables.exec = Jvm.exec) (hb : c.code = cc) (hts : ∀ w ∈ BG, w.before args s = true) (hown : s.vm.findClass own = some m.cls) (hK : va_K D vwCl (tysW cy) s) (hd : decode cc pc = .ok (.getfield idx, 3) ∧ nx = pc + 3) (hlink : (Jvm.Cond.fieldLink own idx (TXn ci f).1 (TXn ci f).2.1 (TXn ci f).2.2.1).before args s = true) (h : s_get (AMW p l e R s m args below meth c cells slots Qw ad cy D A0 H0 nL σz) ls st σ ci f nx) : (AMW p l e R s m args below meth c cells slots Qw ad cy D A0 H0 nL σz) pc ls st σ := by
  intro H locs lsl hP hS hl hls hst hσ
  obtain ⟨hd, rfl⟩ := hd
  unfold s_get at h
  split at h
  · rename_i k i st'
    have hok : 0 ≤ i ∧ i < cntK k := ok_head hst
    split at h
    · rename_i ck hck
      split at h
      · rename_i hce
        subst hce
        split at h
        · rename_i r hf
          obtain ⟨q, g1, g2, g3, g4⟩ := fld_some hf
          rw [hck] at g1
          cases g1
          obtain ⟨q0, hq0⟩ := ids_at g3 hok.1 hok.2
          refine va_get (ci := ck) (ref := (TXn ck f).1) hx hb hts (cls_facts g4).1 hown hK hP q0 ((cells_get hq0 σ).trans (by rw [cellE_O hck])) g4 f g2 hlink (fun x h => h) (v := .ref (ad r.1 r.2)) ?_ hd ?_
          · rw [List.getElem?_map, List.getElem?_range g2]
            simp [fldV, hf]
          · exact h H locs lsl hP hS hl hls (ok_cons (fld_ref hf hok.1 hok.2) (ok_tail hst)) hσ
        · rename_i j hf
          obtain ⟨q, g1, g2, g3, g4⟩ := fld_some hf
          rw [hck] at g1
          cases g1
          obtain ⟨q0, hq0⟩ := ids_at g3 hok.1 hok.2
          have hj := fld_slot hf
          subst hj
          refine va_get (ci := ck) (ref := (TXn ck f).1) hx hb hts (cls_facts g4).1 hown hK hP q0 ((cells_get hq0 σ).trans (by rw [cellE_O hck])) g4 f g2 hlink (fun x h => h) (v := .int (Int32.ofInt (σ k i f))) ?_ hd ?_
          · rw [List.getElem?_map, List.getElem?_range g2]
            simp [fldV, hf]
          · exact h (hσ.1 _ _ _) H locs lsl hP hS hl hls (ok_cons trivial (ok_tail hst)) hσ
        · exact h.elim
      · exact h.elim
    · exact h.elim
  · exact h.elim
theorem w_put {ci f nx idx lo : Nat} {ty : FieldType} (hx : p.tables.exec = Jvm.exec) (hb : c.code = cc) (hts : ∀ w ∈ BG, w.before args s = true) (hown : s.vm.findClass own = some m.cls) (hK : va_K D vwCl (tysW cy) s) (hD : ∀ σ, va_D A0 (cellsW ad cy σ)) (hd : decode cc pc = .ok (.putfield idx, 3) ∧ nx = pc + 3) (hlink : (Jvm.Cond.fieldLink own idx (TXn ci f).1 (TXn ci f).2.1 (TXn ci f).2.2.1).before args s = true) (hty : (lo = 0 ∧ parseFieldDescriptor (TXn ci f).2.2.1 = some .int) ∨ (lo ≠ 0 ∧ parseFieldDescriptor (TXn ci f).2.2.1 = some .boolean)) (h : s_put (AMW p l e R s m args below meth c cells slots Qw ad cy D A0 H0 nL σz) ls st σ ci f lo 0 nx) : (AMW p l e R s m args below meth c cells slots Qw ad cy D A0 H0 nL σz) pc ls st σ := by
  intro H locs lsl hP hS hl hls hst hσ
  obtain ⟨hd, rfl⟩ := hd
  unfold s_put at h
  split at h
  · rename_i v k i st'
    have hok : 0 ≤ i ∧ i < cntK k := ok_head (ok_tail hst)
    split at h
    · rename_i ck hck
      split at h
      · rename_i hce
        subst hce
        split at h
        · rename_i j hf
          obtain ⟨q, g1, g2, g3, g4⟩ := fld_some hf
          rw [hck] at g1
          cases g1
          obtain ⟨q0, hq0⟩ := ids_at g3 hok.1 hok.2
          obtain ⟨u1, ⟨ty0, u2⟩, u3⟩ := cls_facts g4
          have hj := fld_slot hf
          subst hj
          have h' : (if lo = 0 then inR v else (v = 0 ∨ v = 1)) ∧ (AMW p l e R s m args below meth c cells slots Qw ad cy D A0 H0 nL σz) (pc + 3) ls st' (upS σ k i f v) := by
            split at h
            · exact ⟨by rw [if_pos rfl]; exact h.1, h.2⟩
            · rename_i hlo
              exact ⟨by rw [if_neg (fun e => hlo e)]; exact h.1, h.2⟩
          obtain ⟨hv, h⟩ := h'
          have hvr : inR v := by
            split at hv
            · exact hv
            · omega
          have kk : ∀ (H1 : Heap) (locs1 : List Loc), va_P D vwCl ((cellsW ad cy σ).set q0 (ad k i, .inr (ck, ((List.range (nfK k)).map (fldV ad (σ k i) k i)).set f (.int (Int32.ofInt v))))) H1 → va_D A0 ((cellsW ad cy σ).set q0 (ad k i, .inr (ck, ((List.range (nfK k)).map (fldV ad (σ k i) k i)).set f (.int (Int32.ofInt v))))) → va_S A0 H0 H1 locs1 → W p l e R s m args below meth c H1 locs1 cells slots Qw (F0 m (pc + 3) lsl (st'.map (conc ad))) := by
            intro H1 locs1 hP1 _ hS1
            rw [obj_set hf, ← upS_row, ← cellE_O hck (σ := upS σ k i f v), cells_set hq0 (fun k' i' hne => upS_off hne)] at hP1
            exact h H1 locs1 lsl hP1 hS1 hl hls (ok_tail (ok_tail hst)) (okS_up hσ g3 hvr)
          have he := (cells_get (ad := ad) (cy := cy) hq0 σ).trans (by rw [cellE_O hck])
          rcases hty with ⟨hlo, hty⟩ | ⟨hlo, hty⟩
          · exact va_put (ci := ck) (ref := (TXn ck f).1) (v := .int (Int32.ofInt v)) hx hb hts u1 ty0 u2 u3 hown hK hP (hD σ) hS q0 he g4 f g2 hlink (fun x h => h) (fld_int hf hck) hty rfl rfl (by simpa using g2) hd kk
          · rw [if_neg hlo] at hv
            refine va_put (ci := ck) (ref := (TXn ck f).1) (v := .int (Int32.ofInt v)) hx hb hts u1 ty0 u2 u3 hown hK hP (hD σ) hS q0 he g4 f g2 hlink (fun x h => h) (fld_int hf hck) hty ?_ ?_ (by simpa using g2) hd kk
            · rcases hv with rfl | rfl <;> rfl
            · rcases hv with rfl | rfl <;> rfl
        · exact h.elim
      · exact h.elim
    · exact h.elim
  · exact h.elim
theorem w_iald {nx : Nat} (hx : p.tables.exec = Jvm.exec) (hb : c.code = cc) (hK : va_K D vwCl (tysW cy) s) (hd : decode cc pc = .ok (.iaload, 1) ∧ nx = pc + 1) (h : s_iald (AMW p l e R s m args below meth c cells slots Qw ad cy D A0 H0 nL σz) ls st σ nx) : (AMW p l e R s m args below meth c cells slots Qw ad cy D A0 H0 nL σz) pc ls st σ := by
  intro H locs lsl hP hS hl hls hst hσ
  obtain ⟨hd, rfl⟩ := hd
  unfold s_iald at h
  split at h
  · rename_i j k i st'
    have hok : 0 ≤ i ∧ i < cntK k := ok_head (ok_tail hst)
    split at h
    · rename_i n hn
      obtain ⟨-, g2, g3, g4⟩ := lenI_of hn
      obtain ⟨q0, hq0⟩ := ids_at g2 hok.1 hok.2
      obtain ⟨⟨h1, h2⟩, h⟩ := h
      refine va_iald hx hb hK hP q0 0 ((cells_get hq0 σ).trans (by rw [cellE_I hn])) rfl (oi_in h1 h2 (by omega)) hd ?_
      rw [oi_cl h1 (by omega), row_at h1]
      exact h (hσ.1 _ _ _) H locs lsl hP hS hl hls (ok_cons trivial (ok_tail (ok_tail hst))) hσ
    · exact h.elim
  · exact h.elim
theorem w_cald {nx : Nat} (hx : p.tables.exec = Jvm.exec) (hb : c.code = cc) (hK : va_K D vwCl (tysW cy) s) (hd : decode cc pc = .ok (.caload, 1) ∧ nx = pc + 1) (h : s_cald (AMW p l e R s m args below meth c cells slots Qw ad cy D A0 H0 nL σz) ls st σ nx) : (AMW p l e R s m args below meth c cells slots Qw ad cy D A0 H0 nL σz) pc ls st σ := by
  intro H locs lsl hP hS hl hls hst hσ
  obtain ⟨hd, rfl⟩ := hd
  unfold s_cald at h
  split at h
  · rename_i j k i st'
    have hok : 0 ≤ i ∧ i < cntK k := ok_head (ok_tail hst)
    split at h
    · rename_i n hn
      obtain ⟨-, -, g2, g3, g4⟩ := lenC_of hn
      obtain ⟨q0, hq0⟩ := ids_at g2 hok.1 hok.2
      obtain ⟨⟨h1, h2⟩, h⟩ := h
      refine va_cald hx hb hK hP q0 1 ((cells_get hq0 σ).trans (by rw [cellE_C hn])) rfl (oi_in h1 h2 (by omega)) hd ?_
      rw [oi_cl h1 (by omega), row_at h1]
      exact h (hσ.1 _ _ _) H locs lsl hP hS hl hls (ok_cons trivial (ok_tail (ok_tail hst))) hσ
    · exact h.elim
  · exact h.elim
theorem w_aald {nx : Nat} (hx : p.tables.exec = Jvm.exec) (hb : c.code = cc) (hK : va_K D vwCl (tysW cy) s) (hd : decode cc pc = .ok (.aaload, 1) ∧ nx = pc + 1) (h : s_aald (AMW p l e R s m args below meth c cells slots Qw ad cy D A0 H0 nL σz) ls st σ nx) : (AMW p l e R s m args below meth c cells slots Qw ad cy D A0 H0 nL σz) pc ls st σ := by
  intro H locs lsl hP hS hl hls hst hσ
  obtain ⟨hd, rfl⟩ := hd
  unfold s_aald at h
  split at h
  · rename_i j k i st'
    have hok : 0 ≤ i ∧ i < cntK k := ok_head (ok_tail hst)
    split at h
    · rename_i n hn
      obtain ⟨-, -, -, g2, g3, g4, g5⟩ := lenR_of hn
      obtain ⟨q0, hq0⟩ := ids_at g2 hok.1 hok.2
      obtain ⟨⟨h1, h2⟩, h⟩ := h
      have hin := oi_in h1 h2 (by omega : n ≤ 2147483647)
      have ha := (cells_get (ad := ad) (cy := cy) hq0 σ).trans (by rw [cellE_R hn])
      have hcl := oi_cl h1 (by omega : j ≤ 2147483647)
      have hlt : (Int32.ofInt j).toNatClampNeg < n.toNat := Nat.not_le.mp fun q => hin (Or.inr q)
      have ht : ∃ ty : FieldType, ty.isReference = true ∧ (tysW cy)[if k = 4 then 2 else 3]? = some (cy (if k = 4 then 2 else 3), ty) := by
        by_cases h4 : k = 4
        · rw [if_pos h4]
          exact ⟨_, rfl, rfl⟩
        · rw [if_neg h4]
          exact ⟨_, rfl, rfl⟩
      obtain ⟨ty, ht1, ht2⟩ := ht
      refine W.aald (v := .ref (ad (refA k j).1 (refA k j).2)) (ty := ty) hx hb (hP q0 _ ha) ((hK.2 _ _ ht2).1 n.toNat (fun a => va_rf (some (ad (refA k a).1 (refA k a).2)))) ht1 (fun q => by cases q) (by show ¬ (_ ∨ (arrV _ _ _).slots.size ≤ _); rw [arrV_size]; exact hin) (by show (arrV _ _ _).slots[_]? = _; rw [arrV_read _ _ hlt, hcl]; show some (Value.ref (ad (refA k (j.toNat : Int)).1 (refA k (j.toNat : Int)).2)) = _; rw [Int.toNat_of_nonneg h1]) rfl rfl hd ?_
      exact h H locs lsl hP hS hl hls (ok_cons (g5 j h1 h2) (ok_tail (ok_tail hst))) hσ
    · exact h.elim
  · exact h.elim
theorem w_iast {nx : Nat} (hx : p.tables.exec = Jvm.exec) (hb : c.code = cc) (hK : va_K D vwCl (tysW cy) s) (hD : ∀ σ, va_D A0 (cellsW ad cy σ)) (hd : decode cc pc = .ok (.iastore, 1) ∧ nx = pc + 1) (h : s_iast (AMW p l e R s m args below meth c cells slots Qw ad cy D A0 H0 nL σz) ls st σ nx) : (AMW p l e R s m args below meth c cells slots Qw ad cy D A0 H0 nL σz) pc ls st σ := by
  intro H locs lsl hP hS hl hls hst hσ
  obtain ⟨hd, rfl⟩ := hd
  unfold s_iast at h
  split at h
  · rename_i v j k i st'
    have hok : 0 ≤ i ∧ i < cntK k := ok_head (ok_tail (ok_tail hst))
    split at h
    · rename_i n hn
      obtain ⟨-, g2, g3, g4⟩ := lenI_of hn
      obtain ⟨q0, hq0⟩ := ids_at g2 hok.1 hok.2
      obtain ⟨⟨h1, h2, h3⟩, h⟩ := h
      refine va_iast hx hb hK hP (hD σ) hS q0 0 ((cells_get hq0 σ).trans (by rw [cellE_I hn])) rfl (oi_in h1 h2 (by omega)) hd (fun H1 locs1 hP1 _ hS1 => ?_)
      rw [oi_cl h1 (by omega), row_set h1, ← upS_row, ← cellE_I hn (σ := upS σ k i j v), cells_set hq0 (fun k' i' hne => upS_off hne)] at hP1
      exact h H1 locs1 lsl hP1 hS1 hl hls (ok_tail (ok_tail (ok_tail hst))) (okS_up hσ g2 h3)
    · exact h.elim
  · exact h.elim
theorem w_cast {nx : Nat} (hx : p.tables.exec = Jvm.exec) (hb : c.code = cc) (hK : va_K D vwCl (tysW cy) s) (hD : ∀ σ, va_D A0 (cellsW ad cy σ)) (hd : decode cc pc = .ok (.castore, 1) ∧ nx = pc + 1) (h : s_cast (AMW p l e R s m args below meth c cells slots Qw ad cy D A0 H0 nL σz) ls st σ nx) : (AMW p l e R s m args below meth c cells slots Qw ad cy D A0 H0 nL σz) pc ls st σ := by
  intro H locs lsl hP hS hl hls hst hσ
  obtain ⟨hd, rfl⟩ := hd
  unfold s_cast at h
  split at h
  · rename_i v j k i st'
    have hok : 0 ≤ i ∧ i < cntK k := ok_head (ok_tail (ok_tail hst))
    split at h
    · rename_i n hn
      obtain ⟨-, -, g2, g3, g4⟩ := lenC_of hn
      obtain ⟨q0, hq0⟩ := ids_at g2 hok.1 hok.2
      obtain ⟨⟨h1, h2, h3, h5⟩, h⟩ := h
      refine va_cast hx hb hK hP (hD σ) hS q0 1 ((cells_get hq0 σ).trans (by rw [cellE_C hn])) rfl (oi_in h1 h2 (by omega)) hd (fun H1 locs1 hP1 _ hS1 => ?_)
      have hv : vp_nar .char (Int32.ofInt v) = Int32.ofInt v := by
        rw [vp_nar_char]
        have := pk_char (Int32.ofInt v)
        rw [oi_nat h3]
        have e1 : ((nI v.toNat).toUInt32 % 65536).toInt32 = nI v.toNat := by
          rw [pk_char, pk_tn (by omega), Nat.mod_eq_of_lt (by omega)]
        have e2 := vp_nar_char (nI v.toNat)
        have e3 : vp_nar .char (nI v.toNat) = nI v.toNat := by
          have := (pk_charN (q := v.toNat) (by omega)).1
          unfold vp_nar
          rw [this]
        rw [← e2, e3]
      rw [hv, oi_cl h1 (by omega), row_set h1, ← upS_row, ← cellE_C hn (σ := upS σ k i j v), cells_set hq0 (fun k' i' hne => upS_off hne)] at hP1
      exact h H1 locs1 lsl hP1 hS1 hl hls (ok_tail (ok_tail (ok_tail hst))) (okS_up hσ g2 (by omega))
    · exact h.elim
  · exact h.elim
theorem row_cpy {g1 g2 : Int → Int} {sp dp n : Int} (h1 : 0 ≤ sp) (h2 : 0 ≤ dp) (h3 : 0 ≤ n) : va_cpy (rowV g1) (rowV g2) sp.toNat dp.toNat n.toNat = rowV (fun j => if dp ≤ j ∧ j < dp + n then g1 (sp + (j - dp)) else g2 j) := by
  funext a
  unfold va_cpy rowV
  dsimp only
  by_cases h : dp.toNat ≤ a ∧ a < dp.toNat + n.toNat
  · rw [if_pos h, if_pos (by omega)]
    congr 2
    omega
  · rw [if_neg h, if_neg (by omega)]
theorem sum8 {st : List AV} (h : st.length ≤ 8) : ((st.map (conc ad)).map fun v => v.category).sum ≤ 8 := by
  have : ∀ st : List AV, ((st.map (conc ad)).map fun v => v.category).sum = st.length := by
    intro st
    induction st with
    | nil => rfl
    | cons v st ih =>
      rw [List.map_cons, List.map_cons, List.sum_cons, ih, List.length_cons, cat1]
      omega
  rw [this]
  exact h
theorem w_copy {nx idx : Nat} (hx : p.tables.exec = Jvm.exec) (hb : c.code = cc) (hml : c.maxLocals = nL) (hown : s.vm.findClass own = some m.cls) (hK : va_K D vwCl (tysW cy) s) (hD : ∀ σ, va_D A0 (cellsW ad cy σ)) (hR : 1 ≤ R.frames ∧ 40 ≤ R.locals) (hlink : (Jvm.Cond.methodLink own idx arraycopyName).before args s = true) (hnat : (Jvm.Cond.native arraycopyName).before args s = true) (hstat : (Jvm.Cond.static arraycopyName).before args s = true) (hini : (Jvm.Cond.initialized "java/lang/System").before args s = true) (hd : decode cc pc = .ok (.invokestatic idx, 3) ∧ nx = pc + 3) (h : s_copy (AMW p l e R s m args below meth c cells slots Qw ad cy D A0 H0 nL σz) ls st σ nx) : (AMW p l e R s m args below meth c cells slots Qw ad cy D A0 H0 nL σz) pc ls st σ := by
  intro H locs lsl hP hS hl hls hst hσ
  obtain ⟨hd, rfl⟩ := hd
  unfold s_copy at h
  split at h
  · rename_i n dp k2 i2 sp k1 i1 st'
    have ok2 : 0 ≤ i2 ∧ i2 < cntK k2 := ok_head (ok_tail (ok_tail hst))
    have ok1 : 0 ≤ i1 ∧ i1 < cntK k1 := ok_head (ok_tail (ok_tail (ok_tail (ok_tail hst))))
    split at h
    · rename_i n1 n2 hn1 hn2
      split at h
      · rename_i h8
        obtain ⟨-, g2, g3, g4⟩ := lenI_of hn1
        obtain ⟨-, f2, f3, f4⟩ := lenI_of hn2
        obtain ⟨q0, hq0⟩ := ids_at g2 ok1.1 ok1.2
        obtain ⟨q1, hq1⟩ := ids_at f2 ok2.1 ok2.2
        obtain ⟨⟨h1, h2, h3, h4, h5⟩, h⟩ := h
        have z : ∀ x : Int, 0 ≤ x → x ≤ 2147483647 → ¬ Int32.ofInt x < 0 := fun x a b q => by
          rw [← oi_0, oi_lt (by omega) (by omega)] at q
          omega
        refine va_copyi (n0 := n1.toNat) (n1 := n2.toNat) (ty := .int) hx hb (hml.trans hl.1.symm) hown hlink hnat hstat hini hK hP (hD σ) hS q0 q1 0 0 ((cells_get hq0 σ).trans (by rw [cellE_I hn1])) ((cells_get hq1 σ).trans (by rw [cellE_I hn2])) rfl rfl rfl (z sp h1 (by omega)) (z dp h2 (by omega)) (z n h3 (by omega)) (by rw [oi_cl h1 (by omega), oi_cl h3 (by omega)]; omega) (by rw [oi_cl h2 (by omega), oi_cl h3 (by omega)]; omega) (fun _ _ => rfl) hR.1 ?_ hd (fun H1 locs1 hP1 _ hS1 => ?_)
        · have := sum8 (ad := ad) h8
          have e7 : nativeFrameWords "java/lang/System" "arraycopy" 5 = 7 := by decide +kernel
          rw [e7]
          omega
        · have e : (fun j => if dp ≤ j ∧ j < dp + n then σ k1 i1 (sp + (j - dp)) else σ k2 i2 j) = cpS σ k1 i1 sp k2 i2 dp n k2 i2 := by
            funext j
            simp [cpS]
          rw [oi_cl h1 (by omega), oi_cl h2 (by omega), oi_cl h3 (by omega), row_cpy h1 h2 h3, e, ← cellE_I hn2 (σ := cpS σ k1 i1 sp k2 i2 dp n), cells_set hq1 (fun k' i' hne => cpS_off hne)] at hP1
          exact h H1 locs1 lsl hP1 hS1 hl hls (ok_tail (ok_tail (ok_tail (ok_tail (ok_tail hst))))) ⟨cpS_in hσ.1, fun k' i' hk' => by rw [cpS_off (by intro e; cases e; omega)]; exact hσ.2 k' i' hk'⟩
      · exact h.elim
    · exact h.elim
  · exact h.elim
theorem w_min {nx idx : Nat} (hx : p.tables.exec = Jvm.exec) (hb : c.code = cc) (hml : c.maxLocals = nL) (hown : s.vm.findClass own = some m.cls) (hR : 1 ≤ R.frames ∧ 40 ≤ R.locals) (hC : cells ≤ R.cells ∧ slots ≤ R.slots) (hlink : (Jvm.Cond.methodLink own idx Lib.Math.min.name).before args s = true) (hstat : (Jvm.Cond.static Lib.Math.min.name).before args s = true) (hini : (Jvm.Cond.initialized "java/lang/Math").before args s = true) (hcode : (Jvm.Cond.code Lib.Math.min.name Lib.Math.min.code 2 (some .int)).before args s = true) (hd : decode cc pc = .ok (.invokestatic idx, 3) ∧ nx = pc + 3) (h : s_min (AMW p l e R s m args below meth c cells slots Qw ad cy D A0 H0 nL σz) ls st σ nx) : (AMW p l e R s m args below meth c cells slots Qw ad cy D A0 H0 nL σz) pc ls st σ := by
  intro H locs lsl hP hS hl hls hst hσ
  obtain ⟨hd, rfl⟩ := hd
  unfold s_min at h
  split at h
  · rename_i y x st'
    split at h
    · rename_i h8
      obtain ⟨⟨h1, h2⟩, h⟩ := h
      have k := h H locs lsl hP hS hl hls (ok_cons trivial (ok_tail (ok_tail hst))) hσ
      have e : Int32.ofInt (min x y) = if Int32.ofInt y < Int32.ofInt x then Int32.ofInt y else Int32.ofInt x := by
        by_cases q : y < x
        · rw [if_pos ((oi_lt h2 h1).mpr q)]
          congr 1
          omega
        · rw [if_neg (fun z => q ((oi_lt h2 h1).mp z))]
          congr 1
          omega
      rw [List.map_cons] at k
      simp only [conc, e] at k
      refine va_mmin hx hb (hml.trans hl.1.symm) hown hlink hstat hini hcode hR.1 ?_ hC.1 hC.2 hd k
      have := sum8 (ad := ad) h8
      omega
    · exact h.elim
  · exact h.elim
theorem w_max {nx idx : Nat} (hx : p.tables.exec = Jvm.exec) (hb : c.code = cc) (hml : c.maxLocals = nL) (hown : s.vm.findClass own = some m.cls) (hR : 1 ≤ R.frames ∧ 40 ≤ R.locals) (hC : cells ≤ R.cells ∧ slots ≤ R.slots) (hlink : (Jvm.Cond.methodLink own idx Lib.Math.max.name).before args s = true) (hstat : (Jvm.Cond.static Lib.Math.max.name).before args s = true) (hini : (Jvm.Cond.initialized "java/lang/Math").before args s = true) (hcode : (Jvm.Cond.code Lib.Math.max.name Lib.Math.max.code 2 (some .int)).before args s = true) (hd : decode cc pc = .ok (.invokestatic idx, 3) ∧ nx = pc + 3) (h : s_max (AMW p l e R s m args below meth c cells slots Qw ad cy D A0 H0 nL σz) ls st σ nx) : (AMW p l e R s m args below meth c cells slots Qw ad cy D A0 H0 nL σz) pc ls st σ := by
  intro H locs lsl hP hS hl hls hst hσ
  obtain ⟨hd, rfl⟩ := hd
  unfold s_max at h
  split at h
  · rename_i y x st'
    split at h
    · rename_i h8
      obtain ⟨⟨h1, h2⟩, h⟩ := h
      have k := h H locs lsl hP hS hl hls (ok_cons trivial (ok_tail (ok_tail hst))) hσ
      have e : Int32.ofInt (max x y) = if Int32.ofInt x < Int32.ofInt y then Int32.ofInt y else Int32.ofInt x := by
        by_cases q : x < y
        · rw [if_pos ((oi_lt h1 h2).mpr q)]
          congr 1
          omega
        · rw [if_neg (fun z => q ((oi_lt h1 h2).mp z))]
          congr 1
          omega
      rw [List.map_cons] at k
      simp only [conc, e] at k
      refine va_mmax hx hb (hml.trans hl.1.symm) hown hlink hstat hini hcode hR.1 ?_ hC.1 hC.2 hd k
      have := sum8 (ad := ad) h8
      omega
    · exact h.elim
  · exact h.elim
theorem w_abs {nx idx : Nat} (hx : p.tables.exec = Jvm.exec) (hb : c.code = cc) (hml : c.maxLocals = nL) (hown : s.vm.findClass own = some m.cls) (hR : 1 ≤ R.frames ∧ 40 ≤ R.locals) (hC : cells ≤ R.cells ∧ slots ≤ R.slots) (hlink : (Jvm.Cond.methodLink own idx Lib.Math.abs.name).before args s = true) (hstat : (Jvm.Cond.static Lib.Math.abs.name).before args s = true) (hini : (Jvm.Cond.initialized "java/lang/Math").before args s = true) (hcode : (Jvm.Cond.code Lib.Math.abs.name Lib.Math.abs.code 1 (some .int)).before args s = true) (hd : decode cc pc = .ok (.invokestatic idx, 3) ∧ nx = pc + 3) (h : s_abs (AMW p l e R s m args below meth c cells slots Qw ad cy D A0 H0 nL σz) ls st σ nx) : (AMW p l e R s m args below meth c cells slots Qw ad cy D A0 H0 nL σz) pc ls st σ := by
  intro H locs lsl hP hS hl hls hst hσ
  obtain ⟨hd, rfl⟩ := hd
  unfold s_abs at h
  split at h
  · rename_i x st'
    split at h
    · rename_i h8
      obtain ⟨h1, h⟩ := h
      have k := h H locs lsl hP hS hl hls (ok_cons trivial (ok_tail hst)) hσ
      have e : Int32.ofInt (max x (-x)) = if 0 ≤ Int32.ofInt x then Int32.ofInt x else 0 - Int32.ofInt x := by
        have e0 : (0 : Int32) ≤ Int32.ofInt x ↔ 0 ≤ x := by
          rw [← oi_0]
          exact oi_le (by omega) h1
        by_cases q : 0 ≤ x
        · rw [if_pos (e0.mpr q)]
          congr 1
          omega
        · rw [if_neg (fun z => q (e0.mp z)), show max x (-x) = 0 - x by omega, Int32.ofInt_sub]
          rfl
      rw [List.map_cons] at k
      simp only [conc, e] at k
      refine va_mabs hx hb (hml.trans hl.1.symm) hown hlink hstat hini hcode hR.1 ?_ hC.1 hC.2 hd k
      have := sum8 (ad := ad) h8
      omega
    · exact h.elim
  · exact h.elim
theorem swc_at {P : Nat → Prop} {x : Int} : ∀ {ts : List Nat} {lo : Int}, swc P x lo ts → lo ≤ x → x < lo + (ts.length : Int) → ∃ t, ts[(x - lo).toNat]? = some t ∧ P t
  | [], lo, _, h1, h2 => by simp at h2; omega
  | t :: ts, lo, h, h1, h2 => by
    by_cases e : x = lo
    · refine ⟨t, ?_, h.1 e⟩
      rw [e, Int.sub_self]
      rfl
    · simp only [List.length_cons] at h2
      obtain ⟨t', a, b⟩ := swc_at h.2 (by omega) (by omega)
      refine ⟨t', ?_, b⟩
      rw [show (x - lo).toNat = (x - (lo + 1)).toNat + 1 by omega, List.getElem?_cons_succ]
      exact a
theorem w_switch {lo : Int} {ts : List Nat} {dflt : Nat} {d lo' hi : Int} {offs : Array Int} {len : Nat} (hx : p.tables.exec = Jvm.exec) (hb : c.code = cc) (hd : decode cc pc = .ok (.tableswitch d lo' hi offs, len)) (e1 : lo' = lo) (e2 : hi = lo + (ts.length : Int) - 1) (e3 : offs.toList.map (fun o => (pc : Int) + o) = ts.map (fun (t : Nat) => (t : Int))) (e4 : (pc : Int) + d = (dflt : Int)) (h : s_switch (AMW p l e R s m args below meth c cells slots Qw ad cy D A0 H0 nL σz) ls st σ lo ts dflt) : (AMW p l e R s m args below meth c cells slots Qw ad cy D A0 H0 nL σz) pc ls st σ := by
  intro H locs lsl hP hS hl hls hst hσ
  subst e1
  unfold s_switch at h
  split at h
  · rename_i x st'
    obtain ⟨hr, ho, hi'⟩ := h
    have ex := oi_toInt hr
    by_cases q : x < lo' ∨ lo' + (ts.length : Int) ≤ x
    · exact lv_tableOut hx hb hd (by rw [ex]; omega) e4 (ho q H locs lsl hP hS hl hls (ok_tail hst) hσ)
    · obtain ⟨t, t1, t2⟩ := swc_at hi' (by omega) (by omega)
      have h3 : (offs.toList.map (fun o => (pc : Int) + o))[(x - lo').toNat]? = some (t : Int) := by
        rw [e3, List.getElem?_map, t1]
        rfl
      rw [List.getElem?_map] at h3
      cases hq : offs.toList[(x - lo').toNat]? with
      | none => rw [hq] at h3; cases h3
      | some o =>
        rw [hq] at h3
        refine lv_tableIn (off := o) hx hb hd (by rw [ex]; omega) (by rw [ex]; omega) ?_ (Option.some.inj h3) (t2 H locs lsl hP hS hl hls (ok_tail hst) hσ)
        rw [ex, ← Array.getElem?_toList]
        exact hq
  · exact h.elim
/-! calls -/
def WdW (ad : Nat → Int → Nat) (cy : Nat → ClassId) (D : va_G) (SW : State → Prop) (σ : Sto) (U : State) : Prop := va_P D vwCl (cellsW ad cy σ) U.heap ∧ SW U
def QmW (ad : Nat → Int → Nat) (cy : Nat → ClassId) (D : va_G) (SW : State → Prop) (A0 : Nat → Prop) (σ0 : Sto) (Q : Post) : Array Value → State → Outcome → State → Prop := fun _ st o t => (∃ (r : Option AV) (σ' : Sto), o = .returned (r.map (conc ad)) ∧ Q r σ' ∧ okS σ0 σ' ∧ (∀ v, r = some v → okv v) ∧ WdW ad cy D SW σ' t) ∧ va_F A0 st t
theorem am_call {SW : State → Prop} {Qp : Post} {σ0 : Sto} {rest : List Value} {lsl : Array Slot} {st0 : List Value} {a : Array Value} {H : Heap} {locs : List Loc} (hr : va_Run p l e R s m args below meth c H locs cells slots 0 0 (F0 m pc lsl st0) rest (QmW ad cy D SW A0 σ0 Qp a) A0) (hS : va_S A0 H0 H locs)
    (kk : ∀ (r : Option AV) (σ' : Sto) (H1 : Heap) (locs1 : List Loc), Qp r σ' → okS σ0 σ' → (∀ v, r = some v → okv v) → va_P D vwCl (cellsW ad cy σ') H1 → va_S A0 H0 H1 locs1 → W p l e R s m args below meth c H1 locs1 cells slots Qw (F0 m (pc + 3) lsl ((r.map (conc ad)).toList ++ rest))) : W p l e R s m args below meth c H locs cells slots Qw (F0 m pc lsl st0) := by
  intro T hT X
  obtain ⟨v, st₀, t, T', L, h0, X', hL, e1, e2, ⟨⟨r, σ', hv, hq, hok, hr1, hw⟩, hz, hk⟩, st⟩ := hr T hT X
  cases hv
  rw [h0] at hz hk
  obtain ⟨t2, a1, b1⟩ := kk r σ' T'.heap (locs ++ L) hq hok hr1 (by rw [e1]; exact hw.1)
    ⟨Nat.le_trans hS.1 (by rw [e1]; exact hz), fun q h1 h2 => by rw [e1, hk q (Nat.lt_of_lt_of_le h1 hS.1) h2]; exact hS.2.1 q h1 h2, fun q hq => by
      rcases List.mem_append.mp hq with h | h
      · exact hS.2.2 q h
      · exact hL q h⟩ T' rfl X'
  exact ⟨t2, st t2 a1, b1⟩
theorem popn_of : ∀ {n : Nat} {acc st as st' : List AV}, popn n acc st = some (as, st') → ∃ pre, as = pre ++ acc ∧ st = pre.reverse ++ st' ∧ pre.length = n
  | 0, acc, st, as, st', h => by
    simp only [popn, Option.some.injEq, Prod.mk.injEq] at h
    obtain ⟨rfl, rfl⟩ := h
    exact ⟨[], rfl, rfl, rfl⟩
  | n + 1, acc, [], as, st', h => by simp [popn] at h
  | n + 1, acc, v :: st, as, st', h => by
    simp only [popn] at h
    obtain ⟨pre, h1, h2, h3⟩ := popn_of h
    exact ⟨pre ++ [v], by rw [h1, List.append_assoc]; rfl, by rw [h2, List.reverse_append]; rfl, by simp [h3]⟩
theorem mw_facts {y : Nat} (hy : y < NMs) : Jvm.Cond.initialized (mN y).cls ∈ BG ∧ (mS y = true → Jvm.Cond.static (mN y) ∈ BG) ∧ (mS y = false → Jvm.Cond.instanceMethod (mN y) ∈ BG ∧ Jvm.Cond.selects (mN y).cls (mN y) (mN y) ∈ BG) ∧ (mN y).cls = RXn (mC y) ∧ (mN y).cls ≠ "java/lang/invoke/MethodHandle" ∧ (mN y).cls ≠ "java/lang/invoke/VarHandle" ∧ (parseMethodDescriptor (mN y).desc).map (fun q => q.parameters.length) = some (mA y - (if mS y = true then 0 else 1)) ∧ plainName (mN y).cls = true ∧ 1 ≤ mA y + (if mS y = true then 1 else 0) ∧ mL y ≤ 11 ∧ mA y ≤ mL y ∧ mC y < 7 := by
  have h := mw_ok hy
  unfold mwOk at h
  split at h
  · simp only [Bool.and_eq_true, decide_eq_true_eq] at h
    obtain ⟨⟨⟨⟨⟨⟨⟨h1, h2⟩, h3⟩, h4⟩, h5⟩, h6⟩, h7⟩, h8⟩ := h
    refine ⟨rowOk_in h1, fun q => ?_, fun q => ?_, h3.1, h3.2.1, h3.2.2.1, h3.2.2.2, h4, Nat.le_of_ble_eq_true h5, Nat.le_of_ble_eq_true h6, Nat.le_of_ble_eq_true h7, ?_⟩
    · rw [if_pos q] at h2
      exact rowOk_in h2
    · rw [if_neg (by rw [q]; decide), Bool.and_eq_true] at h2
      exact ⟨rowOk_in h2.1, rowOk_in h2.2⟩
    · exact Nat.le_of_ble_eq_true h8
  · cases h
theorem bg_sub {ws : List Jvm.Cond} (h : ∀ w ∈ ws, w ∈ BG) : GoodIn BG ws := fun w hw => bg_good w (h w hw)
/-- what a callee owes: at every store and list of arguments where the twin gives the post, the method has it -/
def MetY (l : Launch) (ad : Nat → Int → Nat) (cy : Nat → ClassId) (D : va_G) (SW : State → Prop) (A0 : Nat → Prop) (rm : Room) (y : Nat) (as : List AV) (σ : Sto) (Q : Post) : Prop := Met l (mN y) (codeW y :: BG) rm (va_Pc (as.map (conc ad)) (WdW ad cy D SW σ)) (QmW ad cy D SW A0 σ Q) 0 0 A0
theorem blind {SW : State → Prop} (hSWb : ∀ (U : State) (g : JFrame) (mk : MethodId) (a : Array Value), SW U → SW (U.calling g mk a)) {as : List Value} {σ : Sto} : FrameBlind (va_Pc as (WdW ad cy D SW σ)) := fun a U g mk q => ⟨q.1, q.2.1, hSWb U g mk a q.2.2⟩
theorem okS_tr {a b d : Sto} (h1 : okS a b) (h2 : okS b d) : okS a d := ⟨h2.1, fun k i hk => (h2.2 k i hk).trans (h1.2 k i hk)⟩
theorem w_call {SW : State → Prop} {Γ : Gam} {y n nx idx : Nat} {rm : Room} (hx : p.tables.exec = Jvm.exec) (hb : c.code = cc) (hml : c.maxLocals = nL) (hts : ∀ w ∈ BG, w.before args s = true) (hown : s.vm.findClass own = some m.cls) (hC : cells ≤ R.cells ∧ slots ≤ R.slots) (hSWb : ∀ (U : State) (g : JFrame) (mk : MethodId) (a : Array Value), SW U → SW (U.calling g mk a)) (hSWH : ∀ (H : Heap) (locs : List Loc) (U : State), va_S A0 H0 H locs → U.heap = H → s.WarmedH U.vm → SW U) (hΓ : ∀ as σ Q, Γ y as σ Q → as.length = mA y → (∀ v ∈ as, okv v) → okS σz σ → MetY l ad cy D SW A0 rm y as σ Q) (hrm : rm.cells = 0 ∧ rm.slots = 0 ∧ rm.frames + 1 ≤ R.frames ∧ 30 + rm.locals ≤ R.locals) (hy : y < NMs) (hst0 : mS y = true) (hn : n = mA y) (hlink : (Jvm.Cond.methodLink own idx (mN y)).before args s = true) (hd : decode cc pc = .ok (.invokestatic idx, 3) ∧ nx = pc + 3) (h : s_call Γ (AMW p l e R s m args below meth c cells slots Qw ad cy D A0 H0 nL σz) ls st σ y n nx) : (AMW p l e R s m args below meth c cells slots Qw ad cy D A0 H0 nL σz) pc ls st σ := by
  intro H locs lsl hP hS hl hls hst hσ
  obtain ⟨hd, rfl⟩ := hd
  obtain ⟨m1, m2, -, -, m4, m5, m6, -, -, m7, -, -⟩ := mw_facts hy
  rw [if_pos hst0, Nat.sub_zero, ← hn] at m6
  unfold s_call at h
  split at h
  · rename_i as st' hpop
    split at h
    · rename_i h8
      obtain ⟨pre, e1, e2, e3⟩ := popn_of hpop
      rw [List.append_nil] at e1
      subst e1
      subst e2
      have hokas : ∀ v ∈ as, okv v := fun v hv => hst v (List.mem_append_left _ (List.mem_reverse.mpr hv))
      have hokst : ∀ v ∈ st', okv v := fun v hv => hst v (List.mem_append_right _ hv)
      have hM := hΓ as σ _ h (by rw [e3, hn]) hokas hσ
      refine am_call (va_runS (As := as.map (conc ad)) (rest := st'.map (conc ad)) ⟨hx, hb, hml, hown, hts⟩ hM ⟨callB_of n hts (bg_sub (fun w hw => ?_)) rfl hrm.1 hrm.2.1 (hts _ m1) hlink ⟨m4, m5, m6⟩ ⟨hrm.2.2.1, by omega⟩, hts _ (m2 hst0)⟩ ⟨blind hSWb, fun U hU hW => ⟨rfl, by rw [hU]; exact hP, hSWH H locs U hS hU hW⟩⟩ rfl (by rw [List.length_map, e3]) hl.1 ?_ (lv_room (sum8 h8)) hd ⟨by omega, by omega⟩) hS (fun r σ' H1 locs1 hq hok hr hP1 hS1 => ?_)
      · rcases List.mem_cons.mp hw with rfl | hw
        · exact cw_ok hy
        · exact hw
      · rw [List.map_append, List.map_reverse]
      · cases r with
        | none => exact hq H1 locs1 lsl hP1 hS1 hl hls hokst (okS_tr hσ hok)
        | some v => exact hq H1 locs1 lsl hP1 hS1 hl hls (ok_cons (hr v rfl) hokst) (okS_tr hσ hok)
    · exact h.elim
  · exact h.elim
theorem w_callN {SW : State → Prop} {Γ : Gam} {y n nx idx : Nat} {rm : Room} {host : String} (hx : p.tables.exec = Jvm.exec) (hb : c.code = cc) (hml : c.maxLocals = nL) (hts : ∀ w ∈ BG, w.before args s = true) (hown : s.vm.findClass own = some m.cls) (hC : cells ≤ R.cells ∧ slots ≤ R.slots) (hSWb : ∀ (U : State) (g : JFrame) (mk : MethodId) (a : Array Value), SW U → SW (U.calling g mk a)) (hSWH : ∀ (H : Heap) (locs : List Loc) (U : State), va_S A0 H0 H locs → U.heap = H → s.WarmedH U.vm → SW U) (hΓ : ∀ as σ Q, Γ y as σ Q → as.length = mA y → (∀ v ∈ as, okv v) → okS σz σ → MetY l ad cy D SW A0 rm y as σ Q) (hrm : rm.cells = 0 ∧ rm.slots = 0 ∧ rm.frames + 1 ≤ R.frames ∧ 30 + rm.locals ≤ R.locals) (hy : y < NMs) (hst0 : mS y = true) (hn : n = mA y) (hlink : va_Nw (.methodLinkNest own idx (mN y) host) s) (hd : decode cc pc = .ok (.invokestatic idx, 3) ∧ nx = pc + 3) (h : s_call Γ (AMW p l e R s m args below meth c cells slots Qw ad cy D A0 H0 nL σz) ls st σ y n nx) : (AMW p l e R s m args below meth c cells slots Qw ad cy D A0 H0 nL σz) pc ls st σ := by
  intro H locs lsl hP hS hl hls hst hσ
  obtain ⟨hd, rfl⟩ := hd
  obtain ⟨m1, m2, -, -, m4, m5, m6, -, -, m7, -, -⟩ := mw_facts hy
  rw [if_pos hst0, Nat.sub_zero, ← hn] at m6
  unfold s_call at h
  split at h
  · rename_i as st' hpop
    split at h
    · rename_i h8
      obtain ⟨pre, e1, e2, e3⟩ := popn_of hpop
      rw [List.append_nil] at e1
      subst e1
      subst e2
      have hokas : ∀ v ∈ as, okv v := fun v hv => hst v (List.mem_append_left _ (List.mem_reverse.mpr hv))
      have hokst : ∀ v ∈ st', okv v := fun v hv => hst v (List.mem_append_right _ hv)
      have hM := hΓ as σ _ h (by rw [e3, hn]) hokas hσ
      refine am_call (va_runSN (As := as.map (conc ad)) (rest := st'.map (conc ad)) ⟨hx, hb, hml, hown, hts⟩ hM ⟨va_cnB n hts (bg_sub (fun w hw => ?_)) rfl hrm.1 hrm.2.1 hlink (hts _ m1) ⟨m4, m5, m6⟩ ⟨hrm.2.2.1, by omega⟩, hts _ (m2 hst0), trivial⟩ ⟨blind hSWb, fun U hU hW => ⟨rfl, by rw [hU]; exact hP, hSWH H locs U hS hU hW⟩⟩ rfl (by rw [List.length_map, e3]) hl.1 ?_ (lv_room (sum8 h8)) hd ⟨by omega, by omega⟩) hS (fun r σ' H1 locs1 hq hok hr hP1 hS1 => ?_)
      · rcases List.mem_cons.mp hw with rfl | hw
        · exact cw_ok hy
        · exact hw
      · rw [List.map_append, List.map_reverse]
      · cases r with
        | none => exact hq H1 locs1 lsl hP1 hS1 hl hls hokst (okS_tr hσ hok)
        | some v => exact hq H1 locs1 lsl hP1 hS1 hl hls (ok_cons (hr v rfl) hokst) (okS_tr hσ hok)
    · exact h.elim
  · exact h.elim
theorem w_callV {SW : State → Prop} {Γ : Gam} {y n nx idx ci : Nat} {rm : Room} (hx : p.tables.exec = Jvm.exec) (hb : c.code = cc) (hml : c.maxLocals = nL) (hts : ∀ w ∈ BG, w.before args s = true) (hown : s.vm.findClass own = some m.cls) (hK : va_K D vwCl (tysW cy) s) (hC : cells ≤ R.cells ∧ slots ≤ R.slots) (hSWb : ∀ (U : State) (g : JFrame) (mk : MethodId) (a : Array Value), SW U → SW (U.calling g mk a)) (hSWH : ∀ (H : Heap) (locs : List Loc) (U : State), va_S A0 H0 H locs → U.heap = H → s.WarmedH U.vm → SW U) (hΓ : ∀ as σ Q, Γ y as σ Q → as.length = mA y → (∀ v ∈ as, okv v) → okS σz σ → MetY l ad cy D SW A0 rm y as σ Q) (hrm : rm.cells = 0 ∧ rm.slots = 0 ∧ rm.frames + 1 ≤ R.frames ∧ 30 + rm.locals ≤ R.locals) (hy : y < NMs) (hst0 : mS y = false) (hn : n = mA y) (hci : ci = mC y) (hlink : (Jvm.Cond.methodLink own idx (mN y)).before args s = true) (hd : decode cc pc = .ok (.invokevirtual idx, 3) ∧ nx = pc + 3) (h : s_callV Γ (AMW p l e R s m args below meth c cells slots Qw ad cy D A0 H0 nL σz) ls st σ ci y n nx) : (AMW p l e R s m args below meth c cells slots Qw ad cy D A0 H0 nL σz) pc ls st σ := by
  intro H locs lsl hP hS hl hls hst hσ
  obtain ⟨hd, rfl⟩ := hd
  obtain ⟨m1, -, m3, mc, m4, m5, m6, -, mge, m7, -, -⟩ := mw_facts hy
  rw [if_neg (by rw [hst0]; decide)] at m6
  unfold s_callV at h
  split at h
  · rename_i k i as st' hpop
    split at h
    · rename_i ck hck
      split at h
      · rename_i hce
        split at h
        · rename_i h8
          obtain ⟨pre, e1, e2, e3⟩ := popn_of hpop
          rw [List.append_nil] at e1
          subst e1
          subst e2
          have hokas : ∀ v ∈ (.inr (k, i) :: as : List AV), okv v := fun v hv => hst v (List.mem_append_left _ (List.mem_reverse.mpr hv))
          have hokst : ∀ v ∈ st', okv v := fun v hv => hst v (List.mem_append_right _ hv)
          have hok : 0 ≤ i ∧ i < cntK k := hokas _ List.mem_cons_self
          obtain ⟨q0, hq0⟩ := ids_at (cls_lt hck).1 hok.1 hok.2
          have hM := hΓ _ σ _ h (by rw [e3, hn]) hokas hσ
          have hC1 : (mN y).cls = RXn ck := by rw [mc, hce, hci]
          have hrecv := va_recv (q0 := q0) (a := ad k i) hK hP (cls_vw hck) ((cells_get (ad := ad) (cy := cy) hq0 σ).trans (by rw [cellE_O hck]))
          refine am_call (va_runV (C := RXn ck) (b := ad k i) (As := as.map (conc ad)) (rest := st'.map (conc ad)) ⟨hx, hb, hml, hown, hts⟩ hM ⟨callB_of (mA y - 1) hts (bg_sub (fun w hw => ?_)) rfl hrm.1 hrm.2.1 (hts _ m1) hlink ⟨m4, m5, m6⟩ ⟨hrm.2.2.1, by omega⟩, hts _ (m3 hst0).1, by rw [← hC1]; exact hts _ (m3 hst0).2⟩ ⟨blind hSWb, hrecv, fun U hU hW => ⟨rfl, by rw [hU]; exact hP, hSWH H locs U hS hU hW⟩⟩ rfl (by rw [List.length_map]; rw [← hn]; rw [List.length_cons] at e3; omega) hl.1 ?_ (lv_room (sum8 h8)) hd ⟨by omega, by omega⟩) hS (fun r σ' H1 locs1 hq hok hr hP1 hS1 => ?_)
          · rcases List.mem_cons.mp hw with rfl | hw
            · exact cw_ok hy
            · exact hw
          · show ((.inr (k, i) :: as : List AV).reverse ++ st').map (conc ad) = (as.map (conc ad)).reverse ++ .ref (ad k i) :: st'.map (conc ad)
            rw [List.reverse_cons, List.map_append, List.map_append, List.map_reverse, List.append_assoc]
            rfl
          · cases r with
            | none => exact hq H1 locs1 lsl hP1 hS1 hl hls hokst (okS_tr hσ hok)
            | some v => exact hq H1 locs1 lsl hP1 hS1 hl hls (ok_cons (hr v rfl) hokst) (okS_tr hσ hok)
        · exact h.elim
      · exact h.elim
    · exact h.elim
  · exact h.elim
end AMF
