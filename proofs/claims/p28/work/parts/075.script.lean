/-! THE SCRIPT: what every method may take of the state beside the cells -/
def SWd (ad : Nat → Int → Nat) (L : Nat) (xs : Nat → Int32) (cy : Nat → ClassId) (D : va_G) (A0 : Nat → Prop) (U : State) : Prop :=
  va_K D vwCl (tysW cy) U ∧ va_Nw (.methodLinkNest RX2 173 yX4_isWithin RX4) U ∧ va_X (ad 41 0) L xs U U.heap ∧ ad 41 0 < U.heap.size ∧ ¬ A0 (ad 41 0)
theorem SWd_b {ad : Nat → Int → Nat} {L : Nat} {xs : Nat → Int32} {cy : Nat → ClassId} {D : va_G} {A0 : Nat → Prop} (U : State) (g : JFrame) (mk : MethodId) (a : Array Value) (h : SWd ad L xs cy D A0 U) : SWd ad L xs cy D A0 (U.calling g mk a) := by
  obtain ⟨h1, h2, h3, h4, h5⟩ := h
  have hv : (U.calling g mk a).vm = U.vm := rfl
  have ha : U.vm.Alike (U.calling g mk a).vm := Vm.Alike.refl U.vm
  exact ⟨va_K.moved ha h1, va_Nw.same rfl hv.symm h2, va_X.moved ha h3, h4, h5⟩
theorem SWd_H {ad : Nat → Int → Nat} {L : Nat} {xs : Nat → Int32} {cy : Nat → ClassId} {D : va_G} {A0 : Nat → Prop} {s U : State} {H : Heap} {locs : List Loc} (h : SWd ad L xs cy D A0 s) (hS : va_S A0 s.heap H locs) (hU : U.heap = H) (hW : s.WarmedH U.vm) : SWd ad L xs cy D A0 U := by
  obtain ⟨h1, h2, h3, h4, h5⟩ := h
  have ha : s.vm.Alike U.vm := hW.alike
  refine ⟨va_K.moved ha h1, va_Nw.warmM hW h2, ?_, ?_, h5⟩
  · rw [hU]
    exact (va_X.moved ha h3).kept (hS.2.1 _ h4 h5)
  · rw [hU]
    exact Nat.lt_of_lt_of_le h4 hS.1
