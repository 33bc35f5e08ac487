/-! a world that grows: cell k lies at o + k -/
def cw_up (w : Nat → va_E) (k : Nat) (e : va_E) : Nat → va_E := fun j => if j = k then e else w j
def cw_l (o n : Nat) (w : Nat → va_E) : va_W := (List.range n).map (fun k => (o + k, w k))
theorem cw_l_get {o n k : Nat} {w : Nat → va_E} (h : k < n) : (cw_l o n w)[k]? = some (o + k, w k) := by simp [cw_l, h]
theorem cw_l_lt {o n k : Nat} {w : Nat → va_E} {q : Nat × va_E} (h : (cw_l o n w)[k]? = some q) : k < n ∧ q = (o + k, w k) := by
  have hk : k < n := by
    have := (List.getElem?_eq_some_iff.mp h).1
    simpa [cw_l] using this
  rw [cw_l_get hk] at h
  cases h
  exact ⟨hk, rfl⟩
theorem cw_l_D {o n : Nat} {w : Nat → va_E} : va_D (am_A o) (cw_l o n w) := by
  refine ⟨fun i j p q hp hq he => ?_, fun k q h => ?_⟩
  · obtain ⟨-, rfl⟩ := cw_l_lt hp
    obtain ⟨-, rfl⟩ := cw_l_lt hq
    dsimp only at he
    omega
  · obtain ⟨-, rfl⟩ := cw_l_lt h
    show o ≤ o + k
    omega
theorem cw_l_congr {o n : Nat} {w w' : Nat → va_E} (h : ∀ k, k < n → w k = w' k) : cw_l o n w = cw_l o n w' := by
  unfold cw_l
  exact List.map_congr_left (fun k hk => by rw [h k (List.mem_range.mp hk)])
theorem cw_l_set {o n a : Nat} {w : Nat → va_E} {e : va_E} (h : a < n) : (cw_l o n w).set a (o + a, e) = cw_l o n (cw_up w a e) := by
  apply List.ext_getElem?
  intro k
  by_cases hk : k = a
  · subst hk
    rw [List.getElem?_set_self (by simpa [cw_l] using h), cw_l_get h]
    unfold cw_up
    rw [if_pos rfl]
  · rw [List.getElem?_set_ne (Ne.symm hk)]
    by_cases h3 : k < n
    · rw [cw_l_get h3, cw_l_get h3]
      unfold cw_up
      rw [if_neg hk]
    · simp [cw_l, h3]
theorem cw_l_push {o n : Nat} {w : Nat → va_E} {e : va_E} : cw_l o n w ++ [(o + n, e)] = cw_l o (n + 1) (cw_up w n e) := by
  have h : cw_l o (n + 1) (cw_up w n e) = cw_l o n (cw_up w n e) ++ [(o + n, cw_up w n e n)] := by
    unfold cw_l
    rw [List.range_succ, List.map_append]
    rfl
  rw [h]
  have e1 : cw_up w n e n = e := by unfold cw_up; rw [if_pos rfl]
  have e2 : cw_l o n (cw_up w n e) = cw_l o n w := cw_l_congr (fun k hk => by unfold cw_up; rw [if_neg (by omega)])
  rw [e1, e2]
/-- words of constructors -/
def cw_nest : List (String × Nat × MethodName) := [("SheetKernel", 24, yX2_init), ("SheetKernel", 31, yX0_init), ("SheetKernel", 38, yX1_init), ("SheetKernel", 43, yX5_init), ("SheetKernel$Sheets", 24, yX3_init)]
def cw_w (U : State) : Prop := va_AO "SheetKernel$Sheet" U ∧ va_AO "SheetKernel$Task" U ∧ ∀ q ∈ cw_nest, va_Nw (.methodLinkNest q.1 q.2.1 q.2.2 "SheetKernel") U
section CWR
variable {p : Program} {l : Launch} {e : Env} {R : Room} {s : State} {m : MethodId} {args : Array Value} {below : List Frame} {meth : Method} {c : Code} {H : Heap} {locs : List Loc} {cells slots : Nat} {Q : State → Prop}
variable {D : va_G} {cy : Nat → ClassId} {o n : Nat} {cc : ByteArray} {nL : Nat} {own : String} {pc : Nat} {ls : Array Slot} {rest : List Value} {w : Nat → va_E}
def cw_X (p : Program) (s : State) (m : MethodId) (args : Array Value) (c : Code) (D : va_G) (cy : Nat → ClassId) (cc : ByteArray) (nL : Nat) (own : String) : Prop :=
  p.tables.exec = Jvm.exec ∧ c.code = cc ∧ c.maxLocals = nL ∧ s.vm.findClass own = some m.cls ∧ (∀ w ∈ am_TB, w.before args s = true) ∧ va_K D vwCl (am_ty cy) s ∧ cw_w s
/-- where a new cell lies -/
theorem cw_q {q : Nat} {x : va_E} {gg : JFrame} (hsz : s.heap.size + cells = o + n + 1) (hP : va_P D vwCl (cw_l o n w ++ [(q, x)]) H) (hD : va_D (am_A o) (cw_l o n w ++ [(q, x)])) (k : q = o + n → W p l e R s m args below meth c H locs cells slots Q gg) : W p l e R s m args below meth c H locs cells slots Q gg := by
  intro T hT X
  refine k ?_ T hT X
  have h1 := X.heapSize
  have hlen : (cw_l o n w).length = n := by simp [cw_l]
  have hq : (cw_l o n w ++ [(q, x)])[n]? = some (q, x) := by
    rw [List.getElem?_append_right (by omega), hlen, Nat.sub_self]
    rfl
  have h2 : q < H.size := (hP n _ hq).lt
  have h3 : o ≤ q := hD.2 n _ hq
  have h4 : ∀ j, j < n → q ≠ o + j := fun j hj z => by
    have hj2 : (cw_l o n w ++ [(q, x)])[j]? = some (o + j, w j) := by
      rw [List.getElem?_append_left (by omega)]
      exact cw_l_get hj
    have := hD.1 n j _ _ hq hj2 z
    omega
  rw [hT] at h1
  by_cases h5 : q < o + n
  · exact absurd (show q = o + (q - o) by omega) (h4 (q - o) (by omega))
  · omega
theorem cw_new {C : String} {T : u_T} {N ci index : Nat} {fs : List Value} (hX : cw_X p s m args c D cy cc nL own) (hin : ∀ w ∈ u_ws C T N, w ∈ am_TB) (ty : Nat → FieldType) (hty : ∀ k, k < N → parseFieldDescriptor (T k).2.2.1 = some (ty k)) (hcl : Cond.classLink own index C ∈ am_TB) (hinst : Cond.instantiable C N ∈ am_TB) (hini : Cond.initialized C ∈ am_TB) (hc : vwCl[ci]? = some (C, T, N)) (hfs : ∀ j, j < N → defaultValue (ty j) = vp_V fs j)
    (hsz : s.heap.size + cells = o + n) (hso : o ≤ s.heap.size) (hcells : cells + 1 ≤ R.cells) (hslots : slots + N ≤ R.slots) (hdg : decode cc pc = .ok (.new index, 3)) (hP : va_P D vwCl (cw_l o n w) H) (hS : va_S (am_A o) s.heap H locs)
    (kk : ∀ H1 : Heap, va_P D vwCl (cw_l o (n + 1) (cw_up w n (.inr (ci, fs)))) H1 → va_S (am_A o) s.heap H1 locs → W p l e R s m args below meth c H1 locs (cells + 1) (slots + N) Q (F0 m (pc + 3) ls (.ref (o + n) :: rest))) : W p l e R s m args below meth c H locs cells slots Q (F0 m pc ls rest) := by
  obtain ⟨hx, hb, hml, hown, hts, hK, hw⟩ := hX
  refine va_new hx hb hts hin ty hty hown (hts _ hcl) (hts _ hinst) (hts _ hini) hK hP cw_l_D hS (fun q hq => Nat.le_trans hso hq) hc hfs hcells hslots hdg (fun q H1 hP1 hD1 hS1 => ?_)
  refine cw_q (by omega) hP1 hD1 (fun eq => ?_)
  subst eq
  rw [cw_l_push] at hP1
  exact kk H1 hP1 hS1
theorem cw_newa {atype : ArrayType} {ty : FieldType} {t0 N : Nat} {k : Int32} {a0 : vp_A} (hX : cw_X p s m args c D cy cc nL own) (harr : Cond.arrayClass (newarray.typeOf atype) ∈ am_TB) (hty : newarray.typeOf atype = ty) (hpr : ∀ C, ty ≠ .object C) (ht : (am_ty cy)[t0]? = some (cy t0, ty)) (ha : ∀ cA : ClassId, vp_cell cA a0 = arrV cA N (fun _ => defaultValue ty)) (hn : ¬ k < 0) (hN : k.toNatClampNeg = N) (hbytes : N * componentBytes ty ≤ 536870912)
    (hsz : s.heap.size + cells = o + n) (hso : o ≤ s.heap.size) (hcells : cells + 1 ≤ R.cells) (hslots : slots + N ≤ R.slots) (hdg : decode cc pc = .ok (.newarray atype, 2)) (hP : va_P D vwCl (cw_l o n w) H) (hS : va_S (am_A o) s.heap H locs)
    (kk : ∀ H1 : Heap, va_P D vwCl (cw_l o (n + 1) (cw_up w n (.inl (cy t0, a0)))) H1 → va_S (am_A o) s.heap H1 locs → W p l e R s m args below meth c H1 locs (cells + 1) (slots + N) Q (F0 m (pc + 2) ls (.ref (o + n) :: rest))) : W p l e R s m args below meth c H locs cells slots Q (F0 m pc ls (.int k :: rest)) := by
  obtain ⟨hx, hb, hml, hown, hts, hK, hw⟩ := hX
  refine va_newa hx hb (hts _ harr) hty hK hP cw_l_D hS (fun q hq => Nat.le_trans hso hq) ha hn hN hbytes hcells hslots hdg (fun q cA H1 hK1 hP1 hD1 hS1 => ?_)
  have e1 := (hK1.2 5 (cA, ty) rfl).2
  have e2 := (hK.2 t0 _ ht).2
  have ecA : cA = cy t0 := by
    cases ty with
    | object C => exact absurd rfl (hpr C)
    | _ => exact Option.some.inj (e1.symm.trans e2)
  subst ecA
  refine cw_q (by omega) hP1 hD1 (fun eq => ?_)
  subst eq
  rw [cw_l_push] at hP1
  exact kk H1 hP1 hS1
theorem cw_newq {C : String} {t0 N index : Nat} {k : Int32} (hX : cw_X p s m args c D cy cc nL own) (hcl : Cond.classLink own index C ∈ am_TB) (hover : va_AO C s) (ht : (am_ty cy)[t0]? = some (cy t0, .object C)) (hn : ¬ k < 0) (hN : k.toNatClampNeg = N) (hbytes : N * 4 ≤ 536870912)
    (hsz : s.heap.size + cells = o + n) (hso : o ≤ s.heap.size) (hcells : cells + 1 ≤ R.cells) (hslots : slots + N ≤ R.slots) (hdg : decode cc pc = .ok (.anewarray index, 3)) (hP : va_P D vwCl (cw_l o n w) H) (hS : va_S (am_A o) s.heap H locs)
    (kk : ∀ H1 : Heap, va_P D vwCl (cw_l o (n + 1) (cw_up w n (.inl (cy t0, N, .inr (.inr (.inr (.inr (fun _ => none)))))))) H1 → va_S (am_A o) s.heap H1 locs → W p l e R s m args below meth c H1 locs (cells + 1) (slots + N) Q (F0 m (pc + 3) ls (.ref (o + n) :: rest))) : W p l e R s m args below meth c H locs cells slots Q (F0 m pc ls (.int k :: rest)) := by
  obtain ⟨hx, hb, hml, hown, hts, hK, hw⟩ := hX
  refine va_newq hx hb hown (hts _ hcl) hover hK hP cw_l_D hS (fun q hq => Nat.le_trans hso hq) hn hN hbytes hcells hslots hdg (fun q cA H1 hK1 hP1 hD1 hS1 => ?_)
  obtain ⟨kA, comp, -, -, -, e1⟩ := (hK1.2 5 (cA, .object C) rfl).2
  obtain ⟨kA', comp', -, -, -, e2⟩ := (hK.2 t0 _ ht).2
  have ecA : cA = cy t0 := Option.some.inj (e1.symm.trans e2)
  subst ecA
  refine cw_q (by omega) hP1 hD1 (fun eq => ?_)
  subst eq
  rw [cw_l_push] at hP1
  exact kk H1 hP1 hS1
end CWR
