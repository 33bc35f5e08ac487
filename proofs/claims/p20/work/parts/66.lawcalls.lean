/-! calls out of the law's frames, and what they catch -/
section LAC
variable {p : Program} {l : Launch} {e : Env} {R : Room} {s : State} {m : MethodId} {args : Array Value} {below : List Frame} {meth : Method} {c : Code} {H : Heap} {locs : List Loc} {cells slots : Nat} {Q : State → Prop}
variable {D : va_G} {cy : Nat → ClassId} {o : Nat} {cc : ByteArray} {nL : Nat} {own : String} {pc : Nat} {ls : Array Slot} {rest : List Value} {g : am_S}
def la_X (p : Program) (s : State) (m : MethodId) (args : Array Value) (c : Code) (D : va_G) (cy : Nat → ClassId) (o : Nat) (cc : ByteArray) (nL : Nat) (own : String) : Prop :=
  p.tables.exec = Jvm.exec ∧ c.code = cc ∧ c.maxLocals = nL ∧ s.vm.findClass own = some m.cls ∧ (∀ w ∈ am_TB, w.before args s = true) ∧ va_K D vwCl (am_ty cy) s ∧ am_xt s ∧ am_Z o s s.heap
def la_nc (U : State) : Prop := ∀ a ∈ am_exC, ∀ b ∈ am_exC, a ≠ b → va_Nc a b U
theorem la_nc.moved {u U : State} (hvm : u.vm.Alike U.vm) (h : la_nc u) : la_nc U := fun a ha b hb hne => (h a ha b hb hne).moved hvm
theorem la_pre {as : List am_v} (hX : la_X p s m args c D cy o cc nL own) (hP : va_P D vwCl (am_wl o cy g) H) (hS : va_S (am_A o) s.heap H locs) {U : State} (hU : U.heap = H) (hW : s.WarmedH U.vm) : am_Pc D cy o as g (as.map (am_cv o)).toArray U := by
  obtain ⟨hx, hb, hml, hown, hts, hK, hxt, hZ⟩ := hX
  refine ⟨rfl, va_K.moved hW.alike hK, hxt.warm hW, ?_, by rw [hU]; exact hP⟩
  rw [hU]
  exact ⟨vx_Zq.moved hW.alike (hZ.1.kept hS.2.1), vx_Zq.moved hW.alike (hZ.2.kept hS.2.1)⟩
theorem la_go {A : Array Slot} {lv : List (Nat × Value)} {st : List Value} (h : lv_has A nL lv) (k : ∀ ls : Array Slot, lv_has ls nL lv → W p l e R s m args below meth c H locs cells slots Q (F0 m pc ls st)) : W p l e R s m args below meth c H locs cells slots Q (F0 m pc A st) := k A h
/-- a call of the class or of the reference -/
theorem la_V1 {idx f n maxL N : Nat} {y : MethodName} {bytes : ByteArray} {ret : Option FieldType} {rm : Room} {F : am_C} {T : u_T} (as : List am_v) {rr : am_O} {g' : am_S} {st0 : List Value} (hX : la_X p s m args c D cy o cc nL own) (hsz : ls.size = nL) (hC : am_Ce l R own idx y bytes maxL ret rm n F) (hd : decode cc pc = .ok (.invokevirtual idx, 3)) (hin : Cond.instanceMethod y ∈ am_TB) (hse : Cond.selects y.cls y y ∈ am_TB) (hf : f < 46) (hak : am_ak f = 0) (hct : am_ct f = 1) (hcl : vwCl[am_cl f]? = some (y.cls, T, N))
    (hn : as.length = n) (hst : st0 = (as.map (am_cv o)).reverse ++ .ref (o + am_ad f 0) :: rest) (hrest : (rest.map fun v => v.category).sum ≤ 8) (hroom : cells + 1 ≤ R.cells ∧ slots + 6 ≤ R.slots) (hP : va_P D vwCl (am_wl o cy g) H) (hS : va_S (am_A o) s.heap H locs) (hF : F (.inr (.inr (f, 0)) :: as) g = some (rr, g'))
    (kv : ∀ v, rr = .inl v → ∀ (H1 : Heap) (locs1 : List Loc), va_P D vwCl (am_wl o cy g') H1 → va_S (am_A o) s.heap H1 locs1 → W p l e R s m args below meth c H1 locs1 (cells + 1) (slots + 6) Q (F0 m (pc + 3) ls ((v.map (am_cv o)).toList ++ rest)))
    (kx : ∀ k, rr = .inr k → ∀ (H1 : Heap) (locs1 : List Loc) (q : Addr) (ce : Cell), va_P D vwCl (am_wl o cy g') H1 → va_S (am_A o) s.heap H1 locs1 → H1[q]? = some ce → ce.vm = .none → s.vm.findClass (am_en k) = some ce.cls → vx_W p l e R s m args below meth c H1 locs1 (cells + 1) (slots + 6) Q (F0 m pc ls rest) q) :
    W p l e R s m args below meth c H locs cells slots Q (F0 m pc ls st0) := by
  obtain ⟨hx, hb, hml, hown, hts, hK, hxt, hZ⟩ := id hX
  subst hst
  have hi : 0 < am_ct f := by omega
  have he := am_wl_get (o := o) (cy := cy) (g := g) hf hi
  rw [am_ce_obj hak] at he
  have erf : am_rf o f 0 = some (o + am_ad f 0) := by
    unfold am_rf
    rw [hct]
  have ecv : am_cv o (.inr (.inr (f, 0))) = .ref (o + am_ad f 0) := am_cv_ref erf
  have hrun : vx_Run p l e R s m args below meth c H locs cells slots 1 6 (F0 m pc ls ((as.map (am_cv o)).reverse ++ .ref (o + am_ad f 0) :: rest)) rest (am_Qc D cy o rr g' (Value.ref (o + am_ad f 0) :: as.map (am_cv o)).toArray) (am_Xc D cy o rr g') (am_A o) :=
    vx_runV (As := as.map (am_cv o)) (C := y.cls) ⟨hx, hb, hml, hown, hts⟩ (hC.1 D cy o _ g g' rr hF) ⟨am_callB hts hC, hts _ hin, hts _ hse⟩
      ⟨am_blind, va_recv hK hP hcl he, fun U hU hW => by rw [← ecv, ← List.map_cons]; exact la_pre hX hP hS hU hW⟩ rfl (by rw [List.length_map]; exact hn) hsz rfl (lv_room hrest) hd hroom
  intro T hT X
  rcases hrun T hT X with ⟨v, st₀, t, T', L', h0, X', hL, e1, e2, hq, st⟩ | ⟨q, st₀, t, T', L', E, ce, h0, X', hL, e1, e2, hxc, hce, hcv, hcl2, st⟩
  · obtain ⟨⟨w, hw, hv2⟩, hP2, hF2, -⟩ := hq
    cases hv2
    obtain ⟨t2, a1, b1⟩ := kv w hw t.heap (locs ++ L') hP2 (am_S2 hS h0 hF2 hL) T' e1 X'
    exact ⟨t2, st t2 a1, b1⟩
  · obtain ⟨⟨k, hk, hE⟩, hP2, hF2⟩ := hxc
    subst hE
    obtain ⟨t2, a1, b1⟩ := kx k hk t.heap (locs ++ L') q ce hP2 (am_S2 hS h0 hF2 hL) hce hcv hcl2 T' e1 X'
    exact ⟨t2, st.trans a1, b1⟩
/-- what the class has thrown is caught by a row of the table -/
theorem la_catch {k : Nat} {hh : List (Nat × Nat × Nat × Nat)} (hX : la_X p s m args c D cy o cc nL own) (hnc : la_nc s) (htb : c.exceptionTable.toList = tableOf hh) (pre : List (Nat × Nat × Nat × Nat)) (x : Nat × Nat × Nat × Nat) (suf : List (Nat × Nat × Nat × Nat)) (hsplit : hh = pre ++ x :: suf) (hcov : covers ⟨x.1, x.2.1, x.2.2.1, x.2.2.2⟩ pc = true) (h0 : x.2.2.2 ≠ 0)
    (hlink : Cond.classLink own x.2.2.2 (am_en k) ∈ am_TB) (hk : am_en k ∈ am_exC) (hpass : ∀ z ∈ pre, z.2.2.2 ≠ 0 ∧ ∃ nm, nm ∈ am_exC ∧ am_en k ≠ nm ∧ Cond.classLink own z.2.2.2 nm ∈ am_TB) {q : Addr} {ce : Cell} (hcell : H[q]? = some ce) (hv : ce.vm = .none) (hcl : s.vm.findClass (am_en k) = some ce.cls)
    (kk : W p l e R s m args below meth c H locs cells slots Q (F0 m x.2.2.1 ls [.ref q])) : vx_W p l e R s m args below meth c H locs cells slots Q (F0 m pc ls rest) q := by
  obtain ⟨hx, hb, hml, hown, hts, hK, hxt, hZ⟩ := hX
  refine vx_catch (own := own) (name := am_en k) (E := am_en k) (ce := ce) hown (tableOf pre) ⟨x.1, x.2.1, x.2.2.1, x.2.2.2⟩ (tableOf suf) ?_ ?_ hcov h0 (hts _ hlink) ((hxt.1 _ hk).use rfl) hcell hv hcl kk
  · rw [htb, hsplit]
    unfold tableOf
    rw [List.map_append, List.map_cons]
  · intro z hz
    unfold tableOf at hz
    obtain ⟨y, hy, rfl⟩ := List.mem_map.mp hz
    obtain ⟨z0, nm, z1, z2, z3⟩ := hpass y hy
    exact Or.inr ⟨z0, nm, hts _ z3, hnc _ hk _ z1 z2⟩
/-- the answer goes to out -/
theorem la_out {w : Int32} (hX : la_X p s m args c D cy o cc nL own) (hP : va_P D vwCl (am_wl o cy g) H) (hS : va_S (am_A o) s.heap H locs) (hd : decode cc pc = .ok (.lastore, 1))
    (kk : ∀ (H1 : Heap) (locs1 : List Loc), va_P D vwCl (am_wl o cy (am_up g 45 0 0 w)) H1 → va_S (am_A o) s.heap H1 locs1 → W p l e R s m args below meth c H1 locs1 cells slots Q (F0 m (pc + 1) ls rest)) : W p l e R s m args below meth c H locs cells slots Q (F0 m pc ls (.long w.toInt64 :: .int 0 :: .ref (o + am_ad 45 0) :: rest)) := by
  obtain ⟨hx, hb, hml, hown, hts, hK, hxt, hZ⟩ := id hX
  have he := am_wl_get (o := o) (cy := cy) (g := g) (f := 45) (i := 0) (by decide) (by decide)
  refine va_last hx hb hK hP (am_wl_D o cy g) hS (am_ad 45 0) 4 (n := 1) (f := fun j => (g 45 0 j).toInt64) he rfl (i := 0) (by unfold vp_in; decide) hd (fun H1 locs1 hP1 hD1 hS1 => kk H1 locs1 ?_ hS1)
  rw [am_wl_set (g' := am_up g 45 0 0 w) (by decide) (by decide) ?_ (fun f' i' hne => am_ce_off hne)] at hP1
  · exact hP1
  · show (.inl (cy 4, 1, .inr (.inl (vp_updL (fun j => (g 45 0 j).toInt64) (0 : Int32).toNatClampNeg w.toInt64))) : va_E) = .inl (cy 4, 1, .inr (.inl (fun j => (am_up g 45 0 0 w 45 0 j).toInt64)))
    congr 5
    funext j
    unfold vp_updL
    by_cases hj : j = 0
    · subst hj
      rw [pu_us]
      exact if_pos rfl
    · rw [pu_uj hj]
      exact if_neg hj
end LAC
/-- a wrapper's contract -/
def la_Pc (D : va_G) (cy : Nat → ClassId) (o : Nat) (as : List am_v) (g : am_S) : Array Value → State → Prop := va_Pc (as.map (am_cv o)) (fun U => am_W D cy o g U U.heap ∧ la_nc U)
def la_Qc (D : va_G) (cy : Nat → ClassId) (o : Nat) (v : Int32) (g : am_S) : Array Value → State → Outcome → State → Prop := fun _ st oc t => oc = .returned (some (.int v)) ∧ va_P D vwCl (am_wl o cy g) t.heap ∧ va_F (am_A o) st t
def la_Ct (l : Launch) (y : MethodName) (bytes : ByteArray) (maxL : Nat) (hh : List (Nat × Nat × Nat × Nat)) (rm : Room) (as : List am_v) (g : am_S) (v : Int32) (g1 : am_S) : Prop :=
  ∀ (D : va_G) (cy : Nat → ClassId) (o : Nat), vx_Met l y (Cond.codeWith y bytes maxL (some .int) hh :: am_TB) rm (la_Pc D cy o as g) (la_Qc D cy o v g1) (fun _ _ _ => False) 1 6 (am_A o)
theorem la_blind {D : va_G} {cy : Nat → ClassId} {o : Nat} {as : List am_v} {g : am_S} : FrameBlind (la_Pc D cy o as g) := by
  intro a U gg mk hp
  obtain ⟨h0, ⟨h1, h2, h3, h4⟩, h5⟩ := hp
  exact ⟨h0, ⟨va_K.moved (u := U) (U := U.calling gg mk a) (Vm.Alike.refl U.vm) h1, am_xt.same (u := U) (U := U.calling gg mk a) rfl h2, ⟨vx_Zq.moved (u := U) (U := U.calling gg mk a) (Vm.Alike.refl U.vm) h3.1, vx_Zq.moved (u := U) (U := U.calling gg mk a) (Vm.Alike.refl U.vm) h3.2⟩, h4⟩, la_nc.moved (u := U) (U := U.calling gg mk a) (Vm.Alike.refl U.vm) h5⟩
def la_wV (th : Nat → Int32) (r : am_R) (v : Int32) (g1 : am_S) : Prop := (r = some (.inl none, g1) ∧ v = 0) ∨ ∃ e, r = some (.inr e, g1) ∧ v = th e ∧ ¬ th e = 0
def la_wI (th : Nat → Int32) (r : am_R) (v : Int32) (g1 : am_S) : Prop := (∃ w gA, r = some (.inl (some (.inl w)), gA) ∧ g1 = am_up gA 45 0 0 w ∧ v = 0) ∨ ∃ e, r = some (.inr e, g1) ∧ v = th e ∧ ¬ th e = 0
theorem th_1_c {e : Nat} (h : ¬ th_1 e = 0) : e = 1 ∧ th_1 e = 1 := by
  unfold th_1 at h ⊢
  by_cases h1 : e = 1
  · rw [if_pos h1]; exact ⟨h1, rfl⟩
  · rw [if_neg h1] at h; exact absurd rfl h
theorem th_3_c {e : Nat} (h : ¬ th_3 e = 0) : e = 3 ∧ th_3 e = 1 := by
  unfold th_3 at h ⊢
  by_cases h1 : e = 3
  · rw [if_pos h1]; exact ⟨h1, rfl⟩
  · rw [if_neg h1] at h; exact absurd rfl h
theorem th_12_c {e : Nat} (h : ¬ th_12 e = 0) : (e = 1 ∧ th_12 e = 1) ∨ (e = 2 ∧ th_12 e = 2) := by
  unfold th_12 at h ⊢
  by_cases h1 : e = 1
  · rw [if_pos h1]; exact Or.inl ⟨h1, rfl⟩
  · rw [if_neg h1] at h ⊢
    by_cases h2 : e = 2
    · rw [if_pos h2]; exact Or.inr ⟨h2, rfl⟩
    · rw [if_neg h2] at h; exact absurd rfl h
theorem th_13_c {e : Nat} (h : ¬ th_13 e = 0) : (e = 1 ∧ th_13 e = 1) ∨ (e = 3 ∧ th_13 e = 2) := by
  unfold th_13 at h ⊢
  by_cases h1 : e = 1
  · rw [if_pos h1]; exact Or.inl ⟨h1, rfl⟩
  · rw [if_neg h1] at h ⊢
    by_cases h2 : e = 3
    · rw [if_pos h2]; exact Or.inr ⟨h2, rfl⟩
    · rw [if_neg h2] at h; exact absurd rfl h
theorem th_123_c {e : Nat} (h : ¬ th_123 e = 0) : (e = 1 ∧ th_123 e = 1) ∨ (e = 2 ∧ th_123 e = 2) ∨ (e = 3 ∧ th_123 e = 3) := by
  unfold th_123 at h ⊢
  by_cases h1 : e = 1
  · rw [if_pos h1]; exact Or.inl ⟨h1, rfl⟩
  · rw [if_neg h1] at h ⊢
    by_cases h2 : e = 2
    · rw [if_pos h2]; exact Or.inr (Or.inl ⟨h2, rfl⟩)
    · rw [if_neg h2] at h ⊢
      by_cases h3 : e = 3
      · rw [if_pos h3]; exact Or.inr (Or.inr ⟨h3, rfl⟩)
      · rw [if_neg h3] at h; exact absurd rfl h
theorem th_134_c {e : Nat} (h : ¬ th_134 e = 0) : (e = 1 ∧ th_134 e = 1) ∨ (e = 3 ∧ th_134 e = 2) ∨ (e = 4 ∧ th_134 e = 3) := by
  unfold th_134 at h ⊢
  by_cases h1 : e = 1
  · rw [if_pos h1]; exact Or.inl ⟨h1, rfl⟩
  · rw [if_neg h1] at h ⊢
    by_cases h2 : e = 3
    · rw [if_pos h2]; exact Or.inr (Or.inl ⟨h2, rfl⟩)
    · rw [if_neg h2] at h ⊢
      by_cases h3 : e = 4
      · rw [if_pos h3]; exact Or.inr (Or.inr ⟨h3, rfl⟩)
      · rw [if_neg h3] at h; exact absurd rfl h
theorem la_ret {p : Program} {l : Launch} {e : Env} {R : Room} {s : State} {m : MethodId} {args : Array Value} {below : List Frame} {meth : Method} {c : Code} {H : Heap} {locs : List Loc} {D : va_G} {cy : Nat → ClassId} {o : Nat} {cc : ByteArray} {nL : Nat} {own : String} {pc : Nat} {ls : Array Slot} {v : Int32} {g1 : am_S} (hX : la_X p s m args c D cy o cc nL own) (hr : meth.sig.returnType = some .int) (hlocks : meth.locks = false) (hd : decode cc pc = .ok (.ireturn, 1)) (hP : va_P D vwCl (am_wl o cy g1) H) (hS : va_S (am_A o) s.heap H locs) :
    W p l e R s m args below meth c H locs 1 6 (vx_MQ below (la_Qc D cy o v g1) (fun _ _ _ => False) args s 1 6 (am_A o)) (F0 m pc ls [.int v]) := by
  obtain ⟨hx, hb, -⟩ := hX
  refine vx_ret ?_
  exact W.iret (v := v) hx hb hr (fun t ht hW => ⟨rfl, by rw [ht]; exact hP, am_SF hS ht⟩) hS.2.2 hd hlocks
