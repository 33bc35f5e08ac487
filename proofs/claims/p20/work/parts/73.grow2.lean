/-! rows of constructors -/
theorem cw_up_at {w : Nat → va_E} {k : Nat} {e : va_E} : cw_up w k e k = e := by unfold cw_up; rw [if_pos rfl]
theorem cw_up_ne {w : Nat → va_E} {k j : Nat} {e : va_E} (h : j ≠ k) : cw_up w k e j = w j := by unfold cw_up; rw [if_neg h]
theorem cw_up_up {w : Nat → va_E} {k : Nat} {e e' : va_E} : cw_up (cw_up w k e) k e' = cw_up w k e' := by
  funext j
  unfold cw_up
  by_cases h : j = k
  · rw [if_pos h, if_pos h]
  · rw [if_neg h, if_neg h, if_neg h]
theorem cw_up_comm {w : Nat → va_E} {k j : Nat} {e e' : va_E} (h : k ≠ j) : cw_up (cw_up w k e) j e' = cw_up (cw_up w j e') k e := by
  funext i
  unfold cw_up
  by_cases h1 : i = j
  · rw [if_pos h1, if_neg (by omega), if_pos h1]
  · rw [if_neg h1, if_neg h1]
section CWS
variable {p : Program} {l : Launch} {e : Env} {R : Room} {s : State} {m : MethodId} {args : Array Value} {below : List Frame} {meth : Method} {c : Code} {H : Heap} {locs : List Loc} {cells slots : Nat} {Q : State → Prop}
variable {D : va_G} {cy : Nat → ClassId} {o n : Nat} {cc : ByteArray} {nL : Nat} {own : String} {pc : Nat} {ls : Array Slot} {rest : List Value} {w : Nat → va_E}
theorem cw_putF {C : String} {T : u_T} {N ci idx a k : Nat} {fs : List Value} {ty : FieldType} {v : Value} (hX : cw_X p s m args c D cy cc nL own) (hnam : meth.name = "<init>") (hin : ∀ w ∈ u_ws C T N, w ∈ am_TB) (ty0 : Nat → FieldType) (hty : ∀ k, k < N → parseFieldDescriptor (T k).2.2.1 = some (ty0 k)) (hnm : ∀ a, a < N → ∀ b, b < N → a ≠ b → (T a).2.1 ≠ (T b).2.1) (hc : vwCl[ci]? = some (C, T, N)) (hk : k < N) (hlink : Cond.fieldLink own idx own (T k).2.1 (T k).2.2.1 ∈ am_TB) (hfin : (T k).2.2.2 = true) (hdecl : (T k).1 = own) (hd : parseFieldDescriptor (T k).2.2.1 = some ty) (hn : narrow ty v = v) (hfit : fits ty v = true) (hl : k < fs.length)
    (ha : a < n) (hwa : w a = .inr (ci, fs)) (hdg : decode cc pc = .ok (.putfield idx, 3)) (hP : va_P D vwCl (cw_l o n w) H) (hS : va_S (am_A o) s.heap H locs)
    (kk : ∀ (H1 : Heap) (locs1 : List Loc), va_P D vwCl (cw_l o n (cw_up w a (.inr (ci, fs.set k v)))) H1 → va_S (am_A o) s.heap H1 locs1 → W p l e R s m args below meth c H1 locs1 cells slots Q (F0 m (pc + 3) ls rest)) : W p l e R s m args below meth c H locs cells slots Q (F0 m pc ls (v :: .ref (o + a) :: rest)) := by
  obtain ⟨hx, hb, hml, hown, hts, hK, hw⟩ := hX
  refine va_putF hx hb hts hin ty0 hty hnm hown hK hP cw_l_D hS a (by rw [cw_l_get ha, hwa]) hc k hk (hts _ hlink) (fun _ z => by rw [← hdecl]; exact z) hfin hnam hdecl hd hn hfit hl hdg (fun H1 locs1 hP1 _ hS1 => ?_)
  rw [cw_l_set ha] at hP1
  exact kk H1 locs1 hP1 hS1
theorem cw_put {C : String} {T : u_T} {N ci idx a k : Nat} {fs : List Value} {ty : FieldType} {v : Value} (hX : cw_X p s m args c D cy cc nL own) (hin : ∀ w ∈ u_ws C T N, w ∈ am_TB) (ty0 : Nat → FieldType) (hty : ∀ k, k < N → parseFieldDescriptor (T k).2.2.1 = some (ty0 k)) (hnm : ∀ a, a < N → ∀ b, b < N → a ≠ b → (T a).2.1 ≠ (T b).2.1) (hc : vwCl[ci]? = some (C, T, N)) (hk : k < N) (hlink : Cond.fieldLink own idx own (T k).2.1 (T k).2.2.1 ∈ am_TB) (hfin : (T k).2.2.2 = false) (hdecl : (T k).1 = own) (hd : parseFieldDescriptor (T k).2.2.1 = some ty) (hn : narrow ty v = v) (hfit : fits ty v = true) (hl : k < fs.length)
    (ha : a < n) (hwa : w a = .inr (ci, fs)) (hdg : decode cc pc = .ok (.putfield idx, 3)) (hP : va_P D vwCl (cw_l o n w) H) (hS : va_S (am_A o) s.heap H locs)
    (kk : ∀ (H1 : Heap) (locs1 : List Loc), va_P D vwCl (cw_l o n (cw_up w a (.inr (ci, fs.set k v)))) H1 → va_S (am_A o) s.heap H1 locs1 → W p l e R s m args below meth c H1 locs1 cells slots Q (F0 m (pc + 3) ls rest)) : W p l e R s m args below meth c H locs cells slots Q (F0 m pc ls (v :: .ref (o + a) :: rest)) := by
  obtain ⟨hx, hb, hml, hown, hts, hK, hw⟩ := hX
  refine va_put hx hb hts hin ty0 hty hnm hown hK hP cw_l_D hS a (by rw [cw_l_get ha, hwa]) hc k hk (hts _ hlink) (fun _ z => by rw [← hdecl]; exact z) hfin hd hn hfit hl hdg (fun H1 locs1 hP1 _ hS1 => ?_)
  rw [cw_l_set ha] at hP1
  exact kk H1 locs1 hP1 hS1
theorem cw_get {C : String} {T : u_T} {N ci idx a k : Nat} {fs : List Value} {v : Value} (hX : cw_X p s m args c D cy cc nL own) (hin : ∀ w ∈ u_ws C T N, w ∈ am_TB) (hc : vwCl[ci]? = some (C, T, N)) (hk : k < N) (hlink : Cond.fieldLink own idx own (T k).2.1 (T k).2.2.1 ∈ am_TB) (hdecl : (T k).1 = own) (hv : fs[k]? = some v)
    (ha : a < n) (hwa : w a = .inr (ci, fs)) (hdg : decode cc pc = .ok (.getfield idx, 3)) (hP : va_P D vwCl (cw_l o n w) H)
    (kk : W p l e R s m args below meth c H locs cells slots Q (F0 m (pc + 3) ls (v :: rest))) : W p l e R s m args below meth c H locs cells slots Q (F0 m pc ls (.ref (o + a) :: rest)) := by
  obtain ⟨hx, hb, hml, hown, hts, hK, hw⟩ := hX
  exact va_get hx hb hts hin hown hK hP a (by rw [cw_l_get ha, hwa]) hc k hk (hts _ hlink) (fun _ z => by rw [← hdecl]; exact z) hv hdg kk
theorem cw_ast {a N i : Nat} {f : Nat → Int32} {x : Int32} (hX : cw_X p s m args c D cy cc nL own) (ha : a < n) (hwa : w a = .inl (cy 0, N, .inl f)) (hi : i < N) (hN : N < 2147483648) (hdg : decode cc pc = .ok (.iastore, 1)) (hP : va_P D vwCl (cw_l o n w) H) (hS : va_S (am_A o) s.heap H locs)
    (kk : ∀ (H1 : Heap) (locs1 : List Loc), va_P D vwCl (cw_l o n (cw_up w a (.inl (cy 0, N, .inl (upd f i x))))) H1 → va_S (am_A o) s.heap H1 locs1 → W p l e R s m args below meth c H1 locs1 cells slots Q (F0 m (pc + 1) ls rest)) : W p l e R s m args below meth c H locs cells slots Q (F0 m pc ls (.int x :: .int (nI i) :: .ref (o + a) :: rest)) := by
  obtain ⟨hx, hb, hml, hown, hts, hK, hw⟩ := hX
  refine va_iast hx hb hK hP cw_l_D hS a 0 (by rw [cw_l_get ha, hwa]) rfl (am_in_iff.mp (pu_in hi (by omega))) hdg (fun H1 locs1 hP1 _ hS1 => ?_)
  rw [cw_l_set ha, nI_clamp (by omega)] at hP1
  exact kk H1 locs1 hP1 hS1
theorem cw_aast {a N i b ci t0 : Nat} {r : vw_C} {vs : List Value} {f : Nat → Option Nat} (hX : cw_X p s m args c D cy cc nL own) (ha : a < n) (hwa : w a = .inl (cy t0, N, .inr (.inr (.inr (.inr f))))) (ht : (am_ty cy)[t0]? = some (cy t0, .object r.1)) (hb9 : b < n) (hwb : w b = .inr (ci, vs)) (hc : vwCl[ci]? = some r) (hi : i < N) (hN : N < 2147483648) (hdg : decode cc pc = .ok (.aastore, 1)) (hP : va_P D vwCl (cw_l o n w) H) (hS : va_S (am_A o) s.heap H locs)
    (kk : ∀ (H1 : Heap) (locs1 : List Loc), va_P D vwCl (cw_l o n (cw_up w a (.inl (cy t0, N, .inr (.inr (.inr (.inr (va_up f i (some (o + b))))))))) ) H1 → va_S (am_A o) s.heap H1 locs1 → W p l e R s m args below meth c H1 locs1 cells slots Q (F0 m (pc + 1) ls rest)) : W p l e R s m args below meth c H locs cells slots Q (F0 m pc ls (.ref (o + b) :: .int (nI i) :: .ref (o + a) :: rest)) := by
  obtain ⟨hx, hb, hml, hown, hts, hK, hw⟩ := hX
  refine va_astq hx hb hK hP cw_l_D hS a t0 b ci (by rw [cw_l_get ha, hwa]) ht (by rw [cw_l_get hb9, hwb]) hc (am_in_iff.mp (pu_in hi (by omega))) hdg (fun H1 locs1 hP1 _ hS1 => ?_)
  rw [cw_l_set ha, nI_clamp (by omega)] at hP1
  exact kk H1 locs1 hP1 hS1
theorem cw_obj {idx a : Nat} (hX : cw_X p s m args c D cy cc nL own) (hsz : ls.size = nL) (hlink : Cond.methodLink own idx Lib.objectInit ∈ am_TB) (hinst : Cond.instanceMethod Lib.objectInit ∈ am_TB) (hcode : Cond.code Lib.objectInit ⟨#[0xb1]⟩ 1 none ∈ am_TB) (hd : decode cc pc = .ok (.invokespecial idx, 3)) (hfr : 1 ≤ R.frames) (hlo : 12 ≤ R.locals)
    (kk : W p l e R s m args below meth c H locs cells slots Q (F0 m (pc + 3) ls [])) : W p l e R s m args below meth c H locs cells slots Q (F0 m pc ls [.ref a]) := by
  obtain ⟨hx, hb, hml, hown, hts, hK, hw⟩ := hX
  exact W.objInit hx hb hown (hts _ hlink) (hts _ hinst) (hts _ hcode) rfl (by rw [hml]; exact hsz) (rest := []) rfl hd hfr hlo kk
/-- a constructor's contract -/
def cw_Pc (D : va_G) (cy : Nat → ClassId) (o n : Nat) (w : Nat → va_E) (a : Nat) : Array Value → State → Prop := fun as U => as = #[Value.ref (o + a)] ∧ va_K D vwCl (am_ty cy) U ∧ cw_w U ∧ U.heap.size = o + n ∧ va_P D vwCl (cw_l o n w) U.heap
def cw_Qc (D : va_G) (o n : Nat) (w : Nat → va_E) : Array Value → State → Outcome → State → Prop := fun _ st oc t => oc = .returned none ∧ va_P D vwCl (cw_l o n w) t.heap ∧ va_F (am_A o) st t
def cw_Ct (l : Launch) (y : MethodName) (bytes : ByteArray) (maxL : Nat) (rm : Room) (D : va_G) (cy : Nat → ClassId) (o a n : Nat) (w : Nat → va_E) (n' : Nat) (w' : Nat → va_E) (mc ms : Nat) : Prop :=
  Met l y (Cond.code y bytes maxL none :: am_TB) rm (cw_Pc D cy o n w a) (cw_Qc D o n' w') mc ms (am_A o)
end CWS
theorem cw_up_id {w : Nat → va_E} {a : Nat} {x : va_E} (h : w a = x) : cw_up w a x = w := by
  funext j
  unfold cw_up
  by_cases hj : j = a
  · rw [if_pos hj, hj, h]
  · rw [if_neg hj]
theorem cw_w.warm {u U : State} (hW : u.WarmedH U.vm) (h : cw_w u) : cw_w U := ⟨h.1.moved hW.alike, h.2.1.moved hW.alike, fun q hq => (h.2.2 q hq).warmM hW⟩
theorem cw_blind {D : va_G} {cy : Nat → ClassId} {o n a : Nat} {w : Nat → va_E} : FrameBlind (cw_Pc D cy o n w a) := by
  intro x U gg mk hp
  obtain ⟨h0, h1, h2, h3, h4⟩ := hp
  exact ⟨h0, va_K.moved (u := U) (U := U.calling gg mk x) (Vm.Alike.refl U.vm) h1, ⟨va_AO.moved (u := U) (U := U.calling gg mk x) (Vm.Alike.refl U.vm) h2.1, va_AO.moved (u := U) (U := U.calling gg mk x) (Vm.Alike.refl U.vm) h2.2.1, fun q hq => va_Nw.same (u := U) (U := U.calling gg mk x) rfl rfl (h2.2.2 q hq)⟩, h3, h4⟩
section CWI
variable {p : Program} {l : Launch} {e : Env} {R : Room} {s : State} {m : MethodId} {args : Array Value} {below : List Frame} {meth : Method} {c : Code} {H : Heap} {locs : List Loc} {cells slots : Nat} {Q : State → Prop}
variable {D : va_G} {cy : Nat → ClassId} {o n : Nat} {cc : ByteArray} {nL : Nat} {own : String} {pc : Nat} {ls : Array Slot} {rest : List Value} {w : Nat → va_E}
theorem cw_size {T : State} (X : Stand p l e R s m args below meth c T locs cells slots) (hT : T.heap = H) (hsz : s.heap.size + cells = o + n) (hn : 0 < n) (hP : va_P D vwCl (cw_l o n w) H) : H.size = o + n := by
  have h1 := X.heapSize
  have h2 : o + (n - 1) < H.size := (hP (n - 1) _ (cw_l_get (by omega))).lt
  rw [hT] at h1
  omega
theorem cw_pre {a : Nat} (hX : cw_X p s m args c D cy cc nL own) (hP : va_P D vwCl (cw_l o n w) H) (hH : H.size = o + n) {U : State} (hU : U.heap = H) (hW : s.WarmedH U.vm) : cw_Pc D cy o n w a (Value.ref (o + a) :: []).toArray U := by
  obtain ⟨hx, hb, hml, hown, hts, hK, hw⟩ := hX
  exact ⟨rfl, va_K.moved hW.alike hK, hw.warm hW, by rw [hU]; exact hH, by rw [hU]; exact hP⟩
theorem cw_after {a n' mc ms : Nat} {w' : Nat → va_E} {st0 : List Value} {as : Array Value} {T : State} (hS : va_S (am_A o) s.heap H locs) (X : Stand p l e R s m args below meth c T locs cells slots) (hT : T.heap = H)
    (hrun : va_Run p l e R s m args below meth c H locs cells slots mc ms (F0 m pc ls st0) rest (cw_Qc D o n' w' as) (am_A o))
    (kk : ∀ (H1 : Heap) (locs1 : List Loc), va_P D vwCl (cw_l o n' w') H1 → va_S (am_A o) s.heap H1 locs1 → W p l e R s m args below meth c H1 locs1 (cells + mc) (slots + ms) Q (F0 m (pc + 3) ls rest)) : ∃ t, Steps p.tables e below (T.setTop (F0 m pc ls st0)) t ∧ Q t := by
  obtain ⟨v, st₀, t, T', L', h0, X', hL, e1, e2, ⟨hv, hP2, hF2⟩, st⟩ := hrun T hT X
  cases hv
  obtain ⟨t2, a1, b1⟩ := kk t.heap (locs ++ L') hP2 (am_S2 hS h0 hF2 hL) T' e1 X'
  exact ⟨t2, st t2 a1, b1⟩
theorem cw_initN {y : MethodName} {bytes : ByteArray} {maxL mc ms a n' idx : Nat} {rm : Room} {w' : Nat → va_E} (hX : cw_X p s m args c D cy cc nL own) (hlsz : ls.size = nL) (hC : cw_Ct l y bytes maxL rm D cy o a n w n' w' mc ms) (hnest : (own, idx, y) ∈ cw_nest) (hcode : Cond.code y bytes maxL none ∈ am_TB) (hini : Cond.initialized y.cls ∈ am_TB) (hinst : Cond.instanceMethod y ∈ am_TB) (hyn : y.name = "<init>") (hy : y.cls ≠ "java/lang/invoke/MethodHandle" ∧ y.cls ≠ "java/lang/invoke/VarHandle") (hds : (parseMethodDescriptor y.desc).map (fun d => d.parameters.length) = some 0)
    (hrm : rm.cells = mc ∧ rm.slots = ms ∧ rm.frames + 1 ≤ R.frames ∧ 8 + (maxL + 11) + rm.locals ≤ R.locals) (hd : decode cc pc = .ok (.invokespecial idx, 3)) (hrest : (rest.map fun v => v.category).sum ≤ 8) (hroom : cells + mc ≤ R.cells ∧ slots + ms ≤ R.slots) (hsz : s.heap.size + cells = o + n) (hn : 0 < n) (hP : va_P D vwCl (cw_l o n w) H) (hS : va_S (am_A o) s.heap H locs)
    (kk : ∀ (H1 : Heap) (locs1 : List Loc), va_P D vwCl (cw_l o n' w') H1 → va_S (am_A o) s.heap H1 locs1 → W p l e R s m args below meth c H1 locs1 (cells + mc) (slots + ms) Q (F0 m (pc + 3) ls rest)) : W p l e R s m args below meth c H locs cells slots Q (F0 m pc ls (.ref (o + a) :: rest)) := by
  obtain ⟨hx, hb, hml, hown, hts, hK, hw⟩ := id hX
  have hwarm := am_tb_warm hts
  intro T hT X
  have hH := cw_size X hT hsz hn hP
  have cw : va_CN R s args own idx y "SheetKernel" bytes maxL none (Cond.code y bytes maxL none :: am_TB) rm mc ms 0 := by
    refine ⟨⟨hrm.1, hrm.2.1, hrm.2.2.1, hrm.2.2.2, fun w hw a' U hW => ?_, List.mem_cons_self⟩, hts _ hcode, hts _ hini, hy, fun sig hs => ?_, (hw.2.2 _ hnest).use rfl⟩
    · rcases List.mem_cons.mp hw with rfl | hw
      · exact hwarm _ hcode a' U hW
      · exact hwarm _ hw a' U hW
    · rw [hs] at hds
      exact (Option.some.inj hds).symm
  exact cw_after (a := a) hS X hT (va_runIN (As := []) (rest := rest) ⟨hx, hb, hml, hown, hts⟩ hC ⟨cw, hyn, hts _ hinst⟩ ⟨cw_blind, fun U hU hW => cw_pre hX hP hH hU hW⟩ rfl rfl hlsz rfl (lv_room hrest) hd hroom) kk
theorem cw_init {y : MethodName} {bytes : ByteArray} {maxL mc ms a n' idx : Nat} {rm : Room} {w' : Nat → va_E} (hX : cw_X p s m args c D cy cc nL own) (hlsz : ls.size = nL) (hC : cw_Ct l y bytes maxL rm D cy o a n w n' w' mc ms) (hlink : Cond.methodLink own idx y ∈ am_TB) (hcode : Cond.code y bytes maxL none ∈ am_TB) (hini : Cond.initialized y.cls ∈ am_TB) (hinst : Cond.instanceMethod y ∈ am_TB) (hyn : y.name = "<init>") (hy : y.cls ≠ "java/lang/invoke/MethodHandle" ∧ y.cls ≠ "java/lang/invoke/VarHandle") (hds : (parseMethodDescriptor y.desc).map (fun d => d.parameters.length) = some 0)
    (hrm : rm.cells = mc ∧ rm.slots = ms ∧ rm.frames + 1 ≤ R.frames ∧ 8 + (maxL + 11) + rm.locals ≤ R.locals) (hd : decode cc pc = .ok (.invokespecial idx, 3)) (hrest : (rest.map fun v => v.category).sum ≤ 8) (hroom : cells + mc ≤ R.cells ∧ slots + ms ≤ R.slots) (hsz : s.heap.size + cells = o + n) (hn : 0 < n) (hP : va_P D vwCl (cw_l o n w) H) (hS : va_S (am_A o) s.heap H locs)
    (kk : ∀ (H1 : Heap) (locs1 : List Loc), va_P D vwCl (cw_l o n' w') H1 → va_S (am_A o) s.heap H1 locs1 → W p l e R s m args below meth c H1 locs1 (cells + mc) (slots + ms) Q (F0 m (pc + 3) ls rest)) : W p l e R s m args below meth c H locs cells slots Q (F0 m pc ls (.ref (o + a) :: rest)) := by
  obtain ⟨hx, hb, hml, hown, hts, hK, hw⟩ := id hX
  have hwarm := am_tb_warm hts
  intro T hT X
  have hH := cw_size X hT hsz hn hP
  have cw : CallB R s args own idx y bytes maxL none (Cond.code y bytes maxL none :: am_TB) rm mc ms 0 := by
    refine ⟨hrm.1, hrm.2.1, hrm.2.2.1, hrm.2.2.2, fun w hw a' U hW => ?_, List.mem_cons_self, hts _ hcode, hts _ hini, hy, fun sig hs => ?_, hts _ hlink⟩
    · rcases List.mem_cons.mp hw with rfl | hw
      · exact hwarm _ hcode a' U hW
      · exact hwarm _ hw a' U hW
    · rw [hs] at hds
      exact (Option.some.inj hds).symm
  exact cw_after (a := a) hS X hT (va_runI (As := []) (rest := rest) ⟨hx, hb, hml, hown, hts⟩ hC ⟨cw, hyn, hts _ hinst⟩ ⟨cw_blind, fun U hU hW => cw_pre hX hP hH hU hW⟩ rfl rfl hlsz rfl (lv_room hrest) hd hroom) kk
end CWI
