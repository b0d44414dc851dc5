/-! THE CONSTRUCTORS of Reckoning and VarveClock -/
def rowsW (r : Nat → Nat) (cy : ClassId) : va_W := (List.range 51).map fun i => (r i, .inl (cy, 601, .inl (fun _ => 0)))
def va_AOA (t : FieldType) (U : State) : Prop := (Cond.arrayOver (.array t)).before #[] U = true
theorem rcI {args : Array Value} {s : State} (h : (Cond.arrayClass .int).before args s = true) : ∃ c : ClassId, s.vm.findClass "[I" = some c := by
  obtain ⟨c, k, comp, h1, h2, h3⟩ := Cond.arrayClass_spec h
  exact ⟨c, h1⟩
theorem rcU {D : va_G} {cl : List vw_C} {tys : List (ClassId × FieldType)} {U : State} {c1 c2 : ClassId} (h : va_K D cl tys U) (h2 : (c2, .int) ∈ tys) (h1 : U.vm.findClass "[I" = some c1) : c1 = c2 := by
  obtain ⟨j, hj⟩ := List.getElem?_of_mem h2
  have b : U.vm.findClass "[I" = some c2 := (h.2 j _ hj).2
  rw [h1] at b
  injection b
theorem va_AOA.moved {t : FieldType} {u U : State} (hvm : u.vm.Alike U.vm) (h : va_AOA t u) : va_AOA t U := by
  obtain ⟨comp, c, k, h1, h2, h3, h4, h5⟩ := arrayOverA_spec h
  obtain ⟨k', hk', he⟩ := hvm.2.2 _ _ h3
  have hi : (U.vm.classes.findIdx? fun (x : Class) => match x.kind with | .array component _ => component == comp | _ => false) = some c := by
    have a := va_idx_bare U.vm comp
    have b := va_idx_bare u.vm comp
    first | rw [hvm.bare_eq] at b | rw [← hvm.bare_eq] at b
    exact (a.symm.trans b).trans h2
  have hkind : k'.kind = .array comp (.array t) := by rw [he]; exact h4
  have f1 : U.vm.findClass (FieldType.array t).toString = some comp := by rw [hvm.findClass]; exact h1
  have f2 : U.vm.findClass ("[" ++ (FieldType.array t).toString) = some c := by rw [hvm.findClass]; exact h5
  unfold va_AOA Cond.before Cond.holds
  simp only [Cond.value]
  rw [f1, Option.bind_some]
  refine (congrArg (fun o : Option Nat => (o.bind (fun c => (U.vm.classes[c]?).map fun (k : Class) => match k.kind with | .array _ ty => decide (ty = FieldType.array t) && decide (U.vm.findClass ("[" ++ (FieldType.array t).toString) = some c) | _ => false) == some true)) hi).trans ?_
  simp [hk', hkind, f2]
/-- a grid of two rows: what its making owes (shown in the last part) -/
abbrev Mna : Prop := ∀ {p : Program} {l : Launch} {e : Env} {R : Room} {s : State} {m : MethodId} {args : Array Value} {below : List Frame} {meth : Method} {c : Code} {H : Heap} {locs : List Loc} {cells slots : Nat} {Q : State → Prop} {cc : ByteArray} {pc : Nat} {ls : Array Slot} {rest : List Value} {D : va_G} {cl : List vw_C} {A : Nat → Prop} {tys : List (ClassId × FieldType)} {H0 : Heap} {X : va_W} (_ : p.tables.exec = Jvm.exec) (_ : c.code = cc) {own : String} {index : Nat} {cy : ClassId} (_ : s.vm.findClass own = some m.cls) (_ : (Cond.classLink own index "[[I").before args s = true) (_ : va_AOA .int s) (_ : (Cond.arrayClass .int).before args s = true) (_ : s.vm.findClass "[I" = some cy)
    (_ : va_K D cl tys s) (_ : va_P D cl X H) (_ : va_D A X) (_ : va_S A H0 H locs) (_ : ∀ q, H0.size ≤ q → A q) (_ : cells + 52 ≤ R.cells) (_ : slots + 30702 ≤ R.slots) (_ : decode cc pc = .ok (.multianewarray index 2, 4))
    (_ : ∀ (q : Nat) (r : Nat → Nat) (cA : ClassId) (H1 : Heap), va_K D cl (tys ++ [(cA, .array .int)]) s → va_P D cl ((X ++ [(q, .inl (cA, 51, .inr (.inr (.inr (.inr (fun i => some (r i)))))))]) ++ rowsW r cy) H1 → va_D A ((X ++ [(q, .inl (cA, 51, .inr (.inr (.inr (.inr (fun i => some (r i)))))))]) ++ rowsW r cy) → va_S A H0 H1 locs →
      W p l e R s m args below meth c H1 locs (cells + 52) (slots + 30702) Q (F0 m (pc + 4) ls (.ref q :: rest))), W p l e R s m args below meth c H locs cells slots Q (F0 m pc ls (.int 601 :: .int 51 :: rest))
