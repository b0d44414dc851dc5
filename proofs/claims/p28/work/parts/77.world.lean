/-! THE START: the world that the constructors leave, as the twin's store -/
def idsC (i : Int) : List (Nat × Int) := [(16, i), (17, i), (18, i), (19, i), (20, i), (21, i), (22, i), (23, i)]
def idsR (k : Nat) : List (Nat × Int) := (List.range 51).map fun (i : Nat) => (k, (i : Int))
def idsL : List (Nat × Int) := [(0, 0)] ++ idsC 0 ++ ([(1, 0), (4, 0)] ++ idsC 2 ++ idsC 3 ++ idsC 4 ++ idsC 5 ++ idsC 6 ++ idsC 7) ++ ([(2, 0), (5, 0)] ++ idsC 1) ++ ([(3, 0), (6, 0)] ++ idsR 24 ++ [(7, 0)] ++ idsR 25 ++ [(8, 0), (9, 0), (10, 0), (11, 0), (12, 0), (13, 0), (14, 0), (15, 0)])
theorem ids_sub : ∀ q ∈ idsK, q ∈ idsL := by decide +kernel
/-- the addresses -/
def adW (v0 : Nat) (a : Nat → Nat) (f : Nat → Nat → Nat) (b : Nat) : Nat → Int → Nat := fun k i => match k with
  | 0 => v0
  | 1 => a 1
  | 2 => a 2
  | 3 => a 3
  | 4 => a 4
  | 5 => a 5
  | 6 => a 7
  | 7 => a 8
  | 8 => f 11 0
  | 9 => f 11 1
  | 10 => f 11 2
  | 11 => f 11 3
  | 12 => f 11 4
  | 13 => f 11 5
  | 14 => f 11 6
  | 15 => f 11 7
  | 16 => (match i.toNat with
    | 0 => a 0
    | 1 => a 6
    | n + 2 => f 1 n)
  | 24 => f 9 i.toNat
  | 25 => f 10 i.toNat
  | 41 => b
  | k => (match i.toNat with
    | 0 => f 0 (k - 17)
    | 1 => f 8 (k - 17)
    | n + 2 => f (2 + n) (k - 17))
def sto0 (g : Int → Int) : Sto := fun k _ j => match k with
  | 23 => setG j
  | 3 => if j = 14 then -1 else 0
  | 41 => g j
  | _ => 0
abbrev celE (ad : Nat → Int → Nat) (cy : Nat → ClassId) (σ : Sto) (q : Nat × Int) : Nat × va_E := (ad q.1 q.2, cellE ad cy σ q.1 q.2)
section WORLD
variable {v0 : Nat} {a : Nat → Nat} {f : Nat → Nat → Nat} {b : Nat} {y : Nat → ClassId} {g : Int → Int}
theorem ew_core0 : coreW (a 0) (f 0) (y 0) = (idsC 0).map (celE (adW v0 a f b) y (sto0 g)) := rfl
theorem ew_core1 : coreW (a 6) (f 8) (y 0) = (idsC 1).map (celE (adW v0 a f b) y (sto0 g)) := rfl
theorem ew_core2 (n : Nat) : coreW (f 1 n) (f (2 + n)) (y 0) = (idsC ((n + 2 : Nat) : Int)).map (celE (adW v0 a f b) y (sto0 g)) := rfl
theorem ew_rows9 : rowsW (f 9) (y 0) = (idsR 24).map (celE (adW v0 a f b) y (sto0 g)) := by
  unfold rowsW idsR
  rw [List.map_map]
  rfl
theorem ew_rows10 : rowsW (f 10) (y 0) = (idsR 25).map (celE (adW v0 a f b) y (sto0 g)) := by
  unfold rowsW idsR
  rw [List.map_map]
  rfl
theorem ew_p1 : ([(v0, .inr (4, [.ref (a 0), .ref (a 1), .ref (a 2), .ref (a 3)]))] : va_W) = [(0, 0)].map (celE (adW v0 a f b) y (sto0 g)) := rfl
theorem ew_p2a : ([(a 1, .inr (1, [.ref (a 4), .int 0, .int 0]))] : va_W) = [(1, 0)].map (celE (adW v0 a f b) y (sto0 g)) := rfl
theorem ew_p2b : ([(a 1, .inr (1, [.ref (a 4), .int 0, .int 0])), (a 4, .inl (y 2, 6, .inr (.inr (.inr (.inr (fun j => some (f 1 j)))))))] : va_W) = [(1, 0), (4, 0)].map (celE (adW v0 a f b) y (sto0 g)) := by
  have e : (fun j : Nat => some (f 1 j)) = fun j : Nat => some (adW v0 a f b (refA 4 (j : Int)).1 (refA 4 (j : Int)).2) := by
    funext j
    have t : (2 + (j : Int)).toNat = j + 2 := by omega
    show some (f 1 j) = some (match (2 + (j : Int)).toNat with
      | 0 => a 0
      | 1 => a 6
      | n + 2 => f 1 n)
    rw [t]
  rw [e]
  rfl
theorem ew_p3 : ([(a 2, .inr (3, [.ref (a 5), .ref (a 6), .int 0, .int 0])), (a 5, .inl (y 1, 90, .inl (fun _ => 0)))] : va_W) = [(2, 0), (5, 0)].map (celE (adW v0 a f b) y (sto0 g)) := rfl
theorem ew_p4a : ([(a 3, .inr (2, [.ref (a 0), .ref (a 7), .ref (a 8), .ref (f 11 0), .ref (f 11 1), .ref (f 11 2), .ref (f 11 3), .ref (f 11 4), .ref (f 11 5), .ref (f 11 6), .ref (f 11 7), .int 0, .int 0, .int 0, .int (-1)]))] : va_W) = [(3, 0)].map (celE (adW v0 a f b) y (sto0 g)) := rfl
theorem ew_p4b : ([(a 7, .inl (y 3, 51, .inr (.inr (.inr (.inr (fun i => some (f 9 i)))))))] : va_W) = [(6, 0)].map (celE (adW v0 a f b) y (sto0 g)) := rfl
theorem ew_p4c : ([(a 8, .inl (y 3, 51, .inr (.inr (.inr (.inr (fun i => some (f 10 i)))))))] : va_W) = [(7, 0)].map (celE (adW v0 a f b) y (sto0 g)) := rfl
theorem ew_all : clockW v0 a f y = idsL.map (celE (adW v0 a f b) y (sto0 g)) := by
  have c2 : coreW (f 1 0) (f (2 + 0)) (y 0) = (idsC 2).map (celE (adW v0 a f b) y (sto0 g)) := ew_core2 0
  have c3 : coreW (f 1 1) (f (2 + 1)) (y 0) = (idsC 3).map (celE (adW v0 a f b) y (sto0 g)) := ew_core2 1
  have c4 : coreW (f 1 2) (f (2 + 2)) (y 0) = (idsC 4).map (celE (adW v0 a f b) y (sto0 g)) := ew_core2 2
  have c5 : coreW (f 1 3) (f (2 + 3)) (y 0) = (idsC 5).map (celE (adW v0 a f b) y (sto0 g)) := ew_core2 3
  have c6 : coreW (f 1 4) (f (2 + 4)) (y 0) = (idsC 6).map (celE (adW v0 a f b) y (sto0 g)) := ew_core2 4
  have c7 : coreW (f 1 5) (f (2 + 5)) (y 0) = (idsC 7).map (celE (adW v0 a f b) y (sto0 g)) := ew_core2 5
  unfold idsL
  rw [List.map_append, List.map_append, List.map_append, List.map_append, List.map_append, List.map_append, List.map_append, List.map_append, List.map_append, List.map_append, List.map_append, List.map_append, List.map_append, List.map_append, List.map_append]
  rw [← c2, ← c3, ← c4, ← c5, ← c6, ← c7, ← ew_core0, ← ew_core1, ← ew_rows9, ← ew_rows10, ← ew_p2b]
  rfl
end WORLD
theorem world_D {A : Nat → Prop} {ad : Nat → Int → Nat} {E : Nat × Int → va_E} (h : va_D A (idsL.map fun q => (ad q.1 q.2, E q))) (cy : Nat → ClassId) (σ : Sto) : va_D A (cellsW ad cy σ) := by
  have at1 : ∀ q ∈ idsL, ∃ i : Nat, idsL[i]? = some q ∧ (idsL.map fun q => (ad q.1 q.2, E q))[i]? = some (ad q.1 q.2, E q) := fun q hq => by
    obtain ⟨i, hi⟩ := List.getElem?_of_mem hq
    exact ⟨i, hi, by rw [List.getElem?_map, hi]; rfl⟩
  have of1 : ∀ (k : Nat) (x : Nat × va_E), (cellsW ad cy σ)[k]? = some x → ∃ q, idsK[k]? = some q ∧ q ∈ idsL ∧ x.1 = ad q.1 q.2 := fun k x hk => by
    unfold cellsW at hk
    rw [List.getElem?_map] at hk
    cases hq : idsK[k]? with
    | none => rw [hq] at hk; cases hk
    | some q =>
      rw [hq] at hk
      cases hk
      exact ⟨q, rfl, ids_sub q (List.mem_of_getElem? hq), rfl⟩
  refine ⟨fun i j x z hi hj e => ?_, fun k x hk => ?_⟩
  · obtain ⟨q1, a1, a2, a3⟩ := of1 i x hi
    obtain ⟨q2, b1, b2, b3⟩ := of1 j z hj
    obtain ⟨i1, c1, c2⟩ := at1 q1 a2
    obtain ⟨j1, d1, d2⟩ := at1 q2 b2
    have ij := h.1 i1 j1 _ _ c2 d2 (by rw [← a3, ← b3]; exact e)
    subst ij
    rw [c1] at d1
    cases d1
    exact (List.getElem?_inj (List.getElem?_eq_some_iff.mp a1).1 ids_nodup).mp (by rw [a1, b1])
  · obtain ⟨q1, a1, a2, a3⟩ := of1 k x hk
    obtain ⟨i1, c1, c2⟩ := at1 q1 a2
    have := h.2 i1 _ c2
    rw [a3]
    exact this
theorem world_P {D : va_G} {cl : List vw_C} {H : Heap} {ad : Nat → Int → Nat} {cy : Nat → ClassId} {σ : Sto} (h : va_P D cl (idsL.map (celE ad cy σ)) H) : va_P D cl (cellsW ad cy σ) H := by
  intro k x hk
  unfold cellsW at hk
  rw [List.getElem?_map] at hk
  cases hq : idsK[k]? with
  | none => rw [hq] at hk; cases hk
  | some q =>
    rw [hq] at hk
    cases hk
    obtain ⟨i, hi⟩ := List.getElem?_of_mem (ids_sub q (List.mem_of_getElem? hq))
    exact h i _ (by rw [List.getElem?_map, hi]; rfl)
theorem sto0_in {g : Int → Int} (hg : ∀ j, inR (g j)) : ∀ k i j, inR (sto0 g k i j) := by
  intro k i j
  unfold sto0
  split
  · show inR (setG j)
    unfold setG
    (repeat' split) <;> omega
  · split <;> omega
  · exact hg j
  · omega
theorem sto0_rel (g : Int → Int) : ∃ K : KV, ClassR (sto0 g) K 0 (fun _ => K) 0 (fun _ => 0) ∧ K 7 0 = 0 ∧ K 7 1 = 0 := by
  have w : WFK (vwC (sto0 g) 0) := by
    have e7 : vwC (sto0 g) 0 7 0 = 0 := rfl
    have e71 : vwC (sto0 g) 0 7 1 = 0 := rfl
    refine ⟨by omega, by omega, fun j h0 h1 => by omega, fun j h0 h1 => by omega, fun i j h0 h1 h2 => by omega, fun j h0 h1 => ?_⟩
    rw [(vw_in (σ := sto0 g) (c := 0)).2.2 h0 h1]
    show 0 ≤ setG j ∧ setG j ≤ 50
    unfold setG
    (repeat' split) <;> omega
  exact ⟨vwC (sto0 g) 0, ⟨rfl, w, ⟨rfl, by decide, (by have e : sto0 g 1 0 1 = 0 := rfl; omega), fun s h0 h1 => by omega⟩, ⟨rfl, by decide, fun j h0 h1 => by omega⟩, RecOk_0 rfl rfl rfl⟩, rfl, rfl⟩
