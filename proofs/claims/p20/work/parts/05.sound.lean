/-! soundness: what the abstract machine does, the machine does -/
def am_TB : List Cond := lw_tbl.filter goodWord
theorem am_tb {w : Cond} (i : Nat) (h : lw_tbl[i]? = some w) (hg : goodWord w = true) : w ∈ am_TB := List.mem_filter.mpr ⟨List.mem_of_getElem? h, hg⟩
theorem am_tb_warm {args : Array Value} {s : State} (hts : ∀ w ∈ am_TB, w.before args s = true) : ∀ w ∈ am_TB, ∀ (a' : Array Value) (U : State), s.WarmedH U.vm → w.before a' U = true :=
  fun w hw _ _ hW => word_at hW (good_of_word (List.mem_filter.mp hw).2) (hts w hw)
abbrev am_ty (cy : Nat → ClassId) : List (ClassId × FieldType) := [(cy 0, .int), (cy 1, .boolean), (cy 2, .object "SheetKernel$Sheet"), (cy 3, .object "SheetKernel$Task"), (cy 4, .long)]
def am_en (n : Nat) : String := match n with
  | 1 => "java/lang/IndexOutOfBoundsException"
  | 2 => "java/lang/IllegalArgumentException"
  | 3 => "java/lang/IllegalStateException"
  | _ => "java/lang/UnsupportedOperationException"
def am_exC : List String := ["java/lang/IndexOutOfBoundsException", "java/lang/IllegalArgumentException", "java/lang/IllegalStateException", "java/lang/UnsupportedOperationException"]
def am_exD : List String := ["java/lang/RuntimeException", "java/lang/Exception", "java/lang/Throwable"]
def am_sts : List (Nat × String) := [(50, "all processes live"), (255, "no such process lives"), (257, "no such page"), (261, "no such count"), (71, "no such kind"), (263, "no such pages"), (265, "a page is mapped"), (267, "a page is not mapped"), (269, "a page is not shared"), (93, "a sheet would have too many mappings"), (110, "there is no new process"), (259, "no such word"), (355, "the touch is refused"), (359, "the process ended"), (140, "no such number of steps"), (157, "no such slot"), (160, "no such how")]
/-- words that the tables hold, but which aren't among the good ones -/
def am_xt (U : State) : Prop := (∀ E ∈ am_exC, va_Nw (.castable E E) U) ∧ (∀ E ∈ am_exD, va_Nw (.declares ⟨E, "<init>", "(Ljava/lang/String;)V"⟩) U) ∧ ∀ q ∈ am_sts, ∃ a, vk_R "SheetKernel" q.1 q.2 a U
theorem am_xt.warm {s U : State} (hW : s.WarmedH U.vm) (h : am_xt s) : am_xt U :=
  ⟨fun E hE => (h.1 E hE).warmC hW, fun E hE => (h.2.1 E hE).warmD hW, fun q hq => by obtain ⟨a, ha⟩ := h.2.2 q hq; exact ⟨a, ha.warm hW⟩⟩
theorem am_xt.same {u U : State} (hv : u.vm = U.vm) (h : am_xt u) : am_xt U :=
  ⟨fun E hE => (h.1 E hE).same rfl hv, fun E hE => (h.2.1 E hE).same rfl hv, fun q hq => by obtain ⟨a, ha⟩ := h.2.2 q hq; exact ⟨a, ha.same hv.symm⟩⟩
def am_Z (o : Nat) (U : State) (H : Heap) : Prop := vx_Zq Bundle.tN "UNASSIGNED_STACK" Bundle.steD (am_A o) U H ∧ vx_Zq Bundle.tN "SUPPRESSED_SENTINEL" Bundle.listD (am_A o) U H
def am_W (D : va_G) (cy : Nat → ClassId) (o : Nat) (g : am_S) (U : State) (H : Heap) : Prop := va_K D vwCl (am_ty cy) U ∧ am_xt U ∧ am_Z o U H ∧ va_P D vwCl (am_wl o cy g) H
def am_Pc (D : va_G) (cy : Nat → ClassId) (o : Nat) (as : List am_v) (g : am_S) : Array Value → State → Prop := va_Pc (as.map (am_cv o)) (fun U => am_W D cy o g U U.heap)
def am_Qc (D : va_G) (cy : Nat → ClassId) (o : Nat) (r : am_O) (g : am_S) : Array Value → State → Outcome → State → Prop := fun _ st oc t =>
  (∃ v, r = .inl v ∧ oc = .returned (v.map (am_cv o))) ∧ va_P D vwCl (am_wl o cy g) t.heap ∧ va_F (am_A o) st t ∧ t.heap.size = st.heap.size
def am_Xc (D : va_G) (cy : Nat → ClassId) (o : Nat) (r : am_O) (g : am_S) : String → State → State → Prop := fun E st t =>
  (∃ n, r = .inr n ∧ E = am_en n) ∧ va_P D vwCl (am_wl o cy g) t.heap ∧ va_F (am_A o) st t
/-- a method's contract: where its abstract run ends, the method ends so -/
def am_Ct (l : Launch) (y : MethodName) (bytes : ByteArray) (maxL : Nat) (ret : Option FieldType) (rm : Room) (F : am_C) : Prop :=
  ∀ (D : va_G) (cy : Nat → ClassId) (o : Nat) (as : List am_v) (g g' : am_S) (r : am_O), F as g = some (r, g') → vx_Met l y (Cond.code y bytes maxL ret :: am_TB) rm (am_Pc D cy o as g) (am_Qc D cy o r g') (am_Xc D cy o r g') 1 6 (am_A o)
/-- the locals that are known -/
def am_ll (o : Nat) : Nat → List (Option am_v) → List (Nat × Value)
  | _, [] => []
  | i, some (.inl x) :: r => (i, am_cv o (.inl x)) :: am_ll o (i + 1) r
  | i, some (.inr (.inr q)) :: r => (i, am_cv o (.inr (.inr q))) :: am_ll o (i + 1) r
  | i, _ :: r => am_ll o (i + 1) r
def am_c1 (v : am_v) : Prop := ∀ x, v ≠ .inr (.inl x)
theorem am_ll_cons {o i : Nat} {v : am_v} (hv : am_c1 v) {r : List (Option am_v)} : am_ll o i (some v :: r) = (i, am_cv o v) :: am_ll o (i + 1) r := by
  rcases v with x | x | q
  · rfl
  · exact absurd rfl (hv x)
  · rfl
theorem am_ll_get {o : Nat} {v : am_v} (hv : am_c1 v) : ∀ (L : List (Option am_v)) (k i : Nat), L[i]? = some (some v) → (k + i, am_cv o v) ∈ am_ll o k L := by
  intro L
  induction L with
  | nil => intro k i h; simp at h
  | cons a r ih =>
    intro k i h
    cases i with
    | zero =>
      have e : a = some v := by simpa using h
      subst e
      rw [am_ll_cons hv]
      exact List.mem_cons_self
    | succ i =>
      have h2 := ih (k + 1) i (by simpa using h)
      have e : k + 1 + i = k + (i + 1) := by omega
      rw [e] at h2
      rcases a with _ | x | x | q
      · exact h2
      · exact List.mem_cons_of_mem _ h2
      · exact h2
      · exact List.mem_cons_of_mem _ h2
theorem am_ll_mem {o : Nat} : ∀ (L : List (Option am_v)) (k : Nat) (q : Nat × Value), q ∈ am_ll o k L → ∃ (i : Nat) (v : am_v), q = (k + i, am_cv o v) ∧ L[i]? = some (some v) ∧ am_c1 v := by
  intro L
  induction L with
  | nil => intro k q h; cases h
  | cons a r ih =>
    intro k q h
    have go : q ∈ am_ll o (k + 1) r → ∃ (i : Nat) (v : am_v), q = (k + i, am_cv o v) ∧ (a :: r)[i]? = some (some v) ∧ am_c1 v := fun h => by
      obtain ⟨i, v, e1, e2, e3⟩ := ih (k + 1) q h
      exact ⟨i + 1, v, by rw [e1, show k + 1 + i = k + (i + 1) by omega], by simpa using e2, e3⟩
    rcases a with _ | x | x | z
    · exact go h
    · rcases List.mem_cons.mp h with h | h
      · exact ⟨0, .inl x, h, rfl, fun y e => by cases e⟩
      · exact go h
    · exact go h
    · rcases List.mem_cons.mp h with h | h
      · exact ⟨0, .inr (.inr z), h, rfl, fun y e => by cases e⟩
      · exact go h
theorem am_cat (o : Nat) {v : am_v} (hv : am_c1 v) : (am_cv o v).category = 1 := by
  rcases v with x | x | q
  · rfl
  · exact absurd rfl (hv x)
  · show (va_rf _).category = 1
    cases am_rf o q.1 q.2 <;> rfl
theorem am_lo_get {o nL : Nat} {ls : Array Slot} {L : List (Option am_v)} {i : Nat} {v : am_v} (hv : am_c1 v) (hl : lv_has ls nL (am_ll o 0 L)) (h : L[i]? = some (some v)) : ls[i]? = some (.val (am_cv o v)) := by
  have := hl.2.2 _ (am_ll_get (o := o) hv L 0 i h)
  rwa [Nat.zero_add] at this
theorem am_lo_set {o nL : Nat} {ls' : Array Slot} {L : List (Option am_v)} {i : Nat} {v : am_v} (hi : i < L.length) (h : lv_has ls' nL ((i, am_cv o v) :: (am_ll o 0 L).filter (fun q => !(q.1 == i) && !(q.1 + 1 == i && q.2.category == 2)))) : lv_has ls' nL (am_ll o 0 (L.set i (some v))) := by
  refine ⟨h.1, h.2.1, fun q hq => h.2.2 q ?_⟩
  obtain ⟨j, w, e1, e2, e3⟩ := am_ll_mem _ _ _ hq
  rw [Nat.zero_add] at e1
  by_cases hj : j = i
  · subst hj
    rw [List.getElem?_set_self hi] at e2
    cases e2
    rw [e1]
    exact List.mem_cons_self
  · rw [List.getElem?_set_ne (Ne.symm hj)] at e2
    refine List.mem_cons_of_mem _ (List.mem_filter.mpr ⟨?_, ?_⟩)
    · have := am_ll_get (o := o) e3 L 0 j e2
      rw [Nat.zero_add] at this
      rw [e1]; exact this
    · have hc := am_cat o e3
      rw [e1]
      simp [hj, hc]
section AMS
variable {p : Program} {l : Launch} {e : Env} {R : Room} {s : State} {m : MethodId} {args : Array Value} {below : List Frame} {meth : Method} {c : Code}
variable {D : va_G} {cy : Nat → ClassId} {o : Nat} {cc : ByteArray} {nL : Nat} {own : String} {rt : Option FieldType}
def am_X (p : Program) (l : Launch) (R : Room) (s : State) (m : MethodId) (args : Array Value) (meth : Method) (c : Code) (D : va_G) (cy : Nat → ClassId) (o : Nat) (cc : ByteArray) (nL : Nat) (own : String) (rt : Option FieldType) : Prop :=
  p.tables.exec = Jvm.exec ∧ c.code = cc ∧ c.maxLocals = nL ∧ meth.sig.returnType = rt ∧ meth.locks = false ∧ (∀ x ∈ c.exceptionTable.toList, False) ∧ s.vm.findClass own = some m.cls ∧ (∀ w ∈ am_TB, w.before args s = true) ∧
  va_K D vwCl (am_ty cy) s ∧ am_xt s ∧ am_Z o s s.heap ∧ l.stackTraces = false ∧ R.cells = 1 ∧ R.slots = 6
def am_G (p : Program) (l : Launch) (e : Env) (R : Room) (s : State) (m : MethodId) (args : Array Value) (below : List Frame) (meth : Method) (c : Code) (D : va_G) (cy : Nat → ClassId) (o nL : Nat) (res : am_O × am_S) (fr : am_F) : Prop :=
  ∀ (H : Heap) (locs : List Loc) (ls : Array Slot), va_P D vwCl (am_wl o cy fr.2.2.2) H → va_S (am_A o) s.heap H locs → lv_has ls nL (am_ll o 0 fr.2.1) →
    W p l e R s m args below meth c H locs 0 0 (vx_MQ below (am_Qc D cy o res.1 res.2) (am_Xc D cy o res.1 res.2) args s 1 6 (am_A o)) (F0 m fr.1 ls (fr.2.2.1.map (am_cv o)))
def am_OK (p : Program) (l : Launch) (e : Env) (R : Room) (s : State) (m : MethodId) (args : Array Value) (below : List Frame) (meth : Method) (c : Code) (D : va_G) (cy : Nat → ClassId) (o nL : Nat) (pc : Nat) (f : am_I) : Prop :=
  ∀ (L : List (Option am_v)) (st : List am_v) (g : am_S) (k : am_F → am_R) (res : am_O × am_S), f (pc, L, st, g) k = some res → (∀ fr', k fr' = some res → am_G p l e R s m args below meth c D cy o nL res fr') → am_G p l e R s m args below meth c D cy o nL res (pc, L, st, g)
theorem am_sound {T : List (Nat × am_I)} (hT : ∀ q ∈ T, am_OK p l e R s m args below meth c D cy o nL q.1 q.2) : ∀ (n : Nat) (fr : am_F) (res : am_O × am_S), am_run T n fr = some res → am_G p l e R s m args below meth c D cy o nL res fr := by
  intro n
  induction n with
  | zero => intro fr res h; cases h
  | succ n ih =>
    intro fr res h
    unfold am_run at h
    cases hf : am_lk fr.1 T with
    | none => rw [hf] at h; cases h
    | some f =>
      rw [hf] at h
      obtain ⟨pc, L, st, g⟩ := fr
      exact hT (pc, f) (am_lk_mem hf) L st g _ res h (fun fr' h' => ih fr' res h')
theorem am_tight {T : State} {locs : List Loc} {k n : Nat} (X : Stand p l e R s m args below meth c T locs k n) (hz : T.heap.size = s.heap.size) : Stand p l e R s m args below meth c T locs 0 0 := by
  refine { X with same := ?_ }
  obtain ⟨h1, h2, h3, h4, h5, h6⟩ := X.same
  have e : ((T.setVm s.vm).heap.toList.drop s.heap.size) = [] := List.drop_eq_nil_of_le (by show T.heap.toList.length ≤ _; rw [Array.length_toList, hz]; exact Nat.le_refl _)
  refine ⟨h1, h2, by show T.heap.size ≤ _; omega, h4, by rw [e]; exact Nat.le_refl _, h6⟩

theorem am_cv_ref {o f a : Nat} {x : Int32} (h : am_rf o f x = some a) : am_cv o (.inr (.inr (f, x))) = .ref a := by show va_rf (am_rf o f x) = _; rw [h]; rfl
theorem am_cv_null {o f : Nat} {x : Int32} (h : am_rf o f x = none) : am_cv o (.inr (.inr (f, x))) = .null := by show va_rf (am_rf o f x) = _; rw [h]; rfl
theorem am_c1i (x : Int32) : am_c1 (.inl x) := fun _ e => by cases e
theorem am_c1r (q : Nat × Int32) : am_c1 (.inr (.inr q)) := fun _ e => by cases e
theorem am_lLen {L : List (Option am_v)} {i : Nat} {z : Option am_v} (h : L[i]? = some z) : i < L.length := (List.getElem?_eq_some_iff.mp h).1
theorem ok_iln (hX : am_X p l R s m args meth c D cy o cc nL own rt) {pc : Nat} {k : Fin 4} {i : Nat} (hd : decode cc pc = .ok (.iload_n k, 1)) (hi : (k : Nat) = i) : am_OK p l e R s m args below meth c D cy o nL pc (im_il i 1) := by
  obtain ⟨hx, hb, hml, hr, hlocks, htab, hown, hts, hK, hxt, hZ, hl0, hRc, hRs⟩ := id hX
  intro L st g k res h hk H locs ls hP hS hl
  dsimp only [im_il] at h
  rcases hL : L[i]? with _ | _ | x | x | q <;> rw [hL] at h <;> try (cases h; done)
  exact lv_iload_n hx hb hd hi (am_lo_get (am_c1i x) hl hL) (hk _ h H locs ls hP hS hl)
theorem ok_il (hX : am_X p l R s m args meth c D cy o cc nL own rt) {pc : Nat} {i : Nat} (hd : decode cc pc = .ok (.iload i, 2)) : am_OK p l e R s m args below meth c D cy o nL pc (im_il i 2) := by
  obtain ⟨hx, hb, hml, hr, hlocks, htab, hown, hts, hK, hxt, hZ, hl0, hRc, hRs⟩ := id hX
  intro L st g k res h hk H locs ls hP hS hl
  dsimp only [im_il] at h
  rcases hL : L[i]? with _ | _ | x | x | q <;> rw [hL] at h <;> try (cases h; done)
  exact lv_iload hx hb hd (am_lo_get (am_c1i x) hl hL) (hk _ h H locs ls hP hS hl)
theorem ok_aln (hX : am_X p l R s m args meth c D cy o cc nL own rt) {pc : Nat} {k : Fin 4} {i : Nat} (hd : decode cc pc = .ok (.aload_n k, 1)) (hi : (k : Nat) = i) : am_OK p l e R s m args below meth c D cy o nL pc (im_al i 1) := by
  obtain ⟨hx, hb, hml, hr, hlocks, htab, hown, hts, hK, hxt, hZ, hl0, hRc, hRs⟩ := id hX
  intro L st g k res h hk H locs ls hP hS hl
  dsimp only [im_al] at h
  rcases hL : L[i]? with _ | _ | x | x | q <;> rw [hL] at h <;> try (cases h; done)
  have h1 := am_lo_get (am_c1r q) hl hL
  have h2 := hk _ h H locs ls hP hS hl
  rw [show (pc, L, (.inr (.inr q) :: st : List am_v), g).2.2.1.map (am_cv o) = am_cv o (.inr (.inr q)) :: st.map (am_cv o) from rfl] at h2
  cases hq : am_rf o q.1 q.2 with
  | none =>
    rw [show am_cv o (.inr (.inr q)) = .null from am_cv_null hq] at h1 h2
    exact lv_aload_nN hx hb hd hi h1 h2
  | some a =>
    rw [show am_cv o (.inr (.inr q)) = .ref a from am_cv_ref hq] at h1 h2
    exact lv_aload_n hx hb hd hi h1 h2
theorem ok_al (hX : am_X p l R s m args meth c D cy o cc nL own rt) {pc : Nat} {i : Nat} (hd : decode cc pc = .ok (.aload i, 2)) : am_OK p l e R s m args below meth c D cy o nL pc (im_al i 2) := by
  obtain ⟨hx, hb, hml, hr, hlocks, htab, hown, hts, hK, hxt, hZ, hl0, hRc, hRs⟩ := id hX
  intro L st g k res h hk H locs ls hP hS hl
  dsimp only [im_al] at h
  rcases hL : L[i]? with _ | _ | x | x | q <;> rw [hL] at h <;> try (cases h; done)
  have h1 := am_lo_get (am_c1r q) hl hL
  have h2 := hk _ h H locs ls hP hS hl
  rw [show (pc, L, (.inr (.inr q) :: st : List am_v), g).2.2.1.map (am_cv o) = am_cv o (.inr (.inr q)) :: st.map (am_cv o) from rfl] at h2
  cases hq : am_rf o q.1 q.2 with
  | none =>
    rw [show am_cv o (.inr (.inr q)) = .null from am_cv_null hq] at h1 h2
    exact lv_aloadN hx hb hd h1 h2
  | some a =>
    rw [show am_cv o (.inr (.inr q)) = .ref a from am_cv_ref hq] at h1 h2
    exact lv_aload hx hb hd h1 h2
theorem ok_isn (hX : am_X p l R s m args meth c D cy o cc nL own rt) {pc : Nat} {k : Fin 4} {i : Nat} (hd : decode cc pc = .ok (.istore_n k, 1)) (hi : (k : Nat) = i) (hn : i < nL) : am_OK p l e R s m args below meth c D cy o nL pc (im_is i 1) := by
  obtain ⟨hx, hb, hml, hr, hlocks, htab, hown, hts, hK, hxt, hZ, hl0, hRc, hRs⟩ := id hX
  intro L st g k res h hk H locs ls hP hS hl
  dsimp only [im_is] at h
  rcases st with _ | ⟨x | x | q, r⟩ <;> try (cases h; done)
  dsimp only at h
  rcases hL : L[i]? with _ | z <;> rw [hL] at h <;> try (cases h; done)
  exact lv_istore_n hx hb hd hi hl hn rfl (fun ls' hl' => hk _ h H locs ls' hP hS (am_lo_set (am_lLen hL) hl'))
theorem ok_is (hX : am_X p l R s m args meth c D cy o cc nL own rt) {pc : Nat} {i : Nat} (hd : decode cc pc = .ok (.istore i, 2)) (hn : i < nL) : am_OK p l e R s m args below meth c D cy o nL pc (im_is i 2) := by
  obtain ⟨hx, hb, hml, hr, hlocks, htab, hown, hts, hK, hxt, hZ, hl0, hRc, hRs⟩ := id hX
  intro L st g k res h hk H locs ls hP hS hl
  dsimp only [im_is] at h
  rcases st with _ | ⟨x | x | q, r⟩ <;> try (cases h; done)
  dsimp only at h
  rcases hL : L[i]? with _ | z <;> rw [hL] at h <;> try (cases h; done)
  exact lv_istore hx hb hd hl hn rfl (fun ls' hl' => hk _ h H locs ls' hP hS (am_lo_set (am_lLen hL) hl'))
theorem ok_asn (hX : am_X p l R s m args meth c D cy o cc nL own rt) {pc : Nat} {k : Fin 4} {i : Nat} (hd : decode cc pc = .ok (.astore_n k, 1)) (hi : (k : Nat) = i) (hn : i < nL) : am_OK p l e R s m args below meth c D cy o nL pc (im_as i 1) := by
  obtain ⟨hx, hb, hml, hr, hlocks, htab, hown, hts, hK, hxt, hZ, hl0, hRc, hRs⟩ := id hX
  intro L st g k res h hk H locs ls hP hS hl
  dsimp only [im_as] at h
  rcases st with _ | ⟨x | x | q, r⟩ <;> try (cases h; done)
  dsimp only at h
  rcases hL : L[i]? with _ | z <;> rw [hL] at h <;> try (cases h; done)
  have go : ∀ ls' : Array Slot, lv_has ls' nL ((i, am_cv o (.inr (.inr q))) :: (am_ll o 0 L).filter (fun q => !(q.1 == i) && !(q.1 + 1 == i && q.2.category == 2))) → _ := fun ls' hl' => hk _ h H locs ls' hP hS (am_lo_set (am_lLen hL) hl')
  show W p l e R s m args below meth c H locs 0 0 _ (F0 m pc ls (am_cv o (.inr (.inr q)) :: r.map (am_cv o)))
  cases hq : am_rf o q.1 q.2 with
  | none =>
    rw [show am_cv o (.inr (.inr q)) = .null from am_cv_null hq] at go ⊢
    exact lv_astore_nN hx hb hd hi hl hn rfl go
  | some a =>
    rw [show am_cv o (.inr (.inr q)) = .ref a from am_cv_ref hq] at go ⊢
    exact lv_astore_n hx hb hd hi hl hn rfl go
theorem ok_as (hX : am_X p l R s m args meth c D cy o cc nL own rt) {pc : Nat} {i : Nat} (hd : decode cc pc = .ok (.astore i, 2)) (hn : i < nL) : am_OK p l e R s m args below meth c D cy o nL pc (im_as i 2) := by
  obtain ⟨hx, hb, hml, hr, hlocks, htab, hown, hts, hK, hxt, hZ, hl0, hRc, hRs⟩ := id hX
  intro L st g k res h hk H locs ls hP hS hl
  dsimp only [im_as] at h
  rcases st with _ | ⟨x | x | q, r⟩ <;> try (cases h; done)
  dsimp only at h
  rcases hL : L[i]? with _ | z <;> rw [hL] at h <;> try (cases h; done)
  have go : ∀ ls' : Array Slot, lv_has ls' nL ((i, am_cv o (.inr (.inr q))) :: (am_ll o 0 L).filter (fun q => !(q.1 == i) && !(q.1 + 1 == i && q.2.category == 2))) → _ := fun ls' hl' => hk _ h H locs ls' hP hS (am_lo_set (am_lLen hL) hl')
  show W p l e R s m args below meth c H locs 0 0 _ (F0 m pc ls (am_cv o (.inr (.inr q)) :: r.map (am_cv o)))
  cases hq : am_rf o q.1 q.2 with
  | none =>
    rw [show am_cv o (.inr (.inr q)) = .null from am_cv_null hq] at go ⊢
    exact lv_astoreN hx hb hd hl hn rfl go
  | some a =>
    rw [show am_cv o (.inr (.inr q)) = .ref a from am_cv_ref hq] at go ⊢
    exact lv_astore hx hb hd hl hn rfl go
theorem ok_ic (hX : am_X p l R s m args meth c D cy o cc nL own rt) {pc : Nat} {n : Int} {v : Int32} (hd : decode cc pc = .ok (.iconst n, 1)) (hv : Int32.ofInt n = v) : am_OK p l e R s m args below meth c D cy o nL pc (im_ic v 1) := by
  obtain ⟨hx, hb, hml, hr, hlocks, htab, hown, hts, hK, hxt, hZ, hl0, hRc, hRs⟩ := id hX
  intro L st g k res h hk H locs ls hP hS hl
  exact lv_iconst hx hb hd hv (hk _ h H locs ls hP hS hl)
theorem ok_bi (hX : am_X p l R s m args meth c D cy o cc nL own rt) {pc : Nat} {n : Int} {v : Int32} (hd : decode cc pc = .ok (.bipush n, 2)) (hv : (Int8.ofInt n).toInt32 = v) : am_OK p l e R s m args below meth c D cy o nL pc (im_ic v 2) := by
  obtain ⟨hx, hb, hml, hr, hlocks, htab, hown, hts, hK, hxt, hZ, hl0, hRc, hRs⟩ := id hX
  intro L st g k res h hk H locs ls hP hS hl
  exact lv_bipush hx hb hd hv (hk _ h H locs ls hP hS hl)
theorem ok_si (hX : am_X p l R s m args meth c D cy o cc nL own rt) {pc : Nat} {n : Int} {v : Int32} (hd : decode cc pc = .ok (.sipush n, 3)) (hv : (Int16.ofInt n).toInt32 = v) : am_OK p l e R s m args below meth c D cy o nL pc (im_ic v 3) := by
  obtain ⟨hx, hb, hml, hr, hlocks, htab, hown, hts, hK, hxt, hZ, hl0, hRc, hRs⟩ := id hX
  intro L st g k res h hk H locs ls hP hS hl
  exact lv_sipush hx hb hd hv (hk _ h H locs ls hP hS hl)
theorem ok_nl (hX : am_X p l R s m args meth c D cy o cc nL own rt) {pc : Nat} (hd : decode cc pc = .ok (.aconst_null, 1)) : am_OK p l e R s m args below meth c D cy o nL pc (im_nl) := by
  obtain ⟨hx, hb, hml, hr, hlocks, htab, hown, hts, hK, hxt, hZ, hl0, hRc, hRs⟩ := id hX
  intro L st g k res h hk H locs ls hP hS hl
  have h2 := hk _ h H locs ls hP hS hl
  exact lv_null hx hb hd h2
theorem ok_in (hX : am_X p l R s m args meth c D cy o cc nL own rt) {pc : Nat} {i : Nat} {n : Int} {d : Int32} (hd : decode cc pc = .ok (.iinc i n, 3)) (hv : Int32.ofInt n = d) (hn : i < nL) : am_OK p l e R s m args below meth c D cy o nL pc (im_in i d) := by
  obtain ⟨hx, hb, hml, hr, hlocks, htab, hown, hts, hK, hxt, hZ, hl0, hRc, hRs⟩ := id hX
  intro L st g k res h hk H locs ls hP hS hl
  dsimp only [im_in] at h
  rcases hL : L[i]? with _ | _ | x | x | q <;> rw [hL] at h <;> try (cases h; done)
  have hm := am_ll_get (o := o) (am_c1i x) L 0 i hL
  rw [Nat.zero_add] at hm
  obtain ⟨k1, hk1⟩ := List.getElem?_of_mem hm
  exact lv_iinc (v := x + d) hx hb hd hl hk1 (by rw [hv]) hn rfl (fun ls' hl' => hk _ h H locs ls' hP hS (am_lo_set (v := .inl (x + d)) (am_lLen hL) hl'))
theorem ok_go (hX : am_X p l R s m args meth c D cy o cc nL own rt) {pc : Nat} {off : Int} {t : Nat} (hd : decode cc pc = .ok (.goto off, 3)) (ht : (pc : Int) + off = (t : Int)) : am_OK p l e R s m args below meth c D cy o nL pc (im_go t) := by
  obtain ⟨hx, hb, hml, hr, hlocks, htab, hown, hts, hK, hxt, hZ, hl0, hRc, hRs⟩ := id hX
  intro L st g k res h hk H locs ls hP hS hl
  exact lv_goto hx hb hd ht (hk _ h H locs ls hP hS hl)
theorem ok_du (hX : am_X p l R s m args meth c D cy o cc nL own rt) {pc : Nat} (hd : decode cc pc = .ok (.dup, 1)) : am_OK p l e R s m args below meth c D cy o nL pc (im_du) := by
  obtain ⟨hx, hb, hml, hr, hlocks, htab, hown, hts, hK, hxt, hZ, hl0, hRc, hRs⟩ := id hX
  intro L st g k res h hk H locs ls hP hS hl
  dsimp only [im_du] at h
  rcases st with _ | ⟨x | x | q, r⟩ <;> try (cases h; done)
  · exact lv_dup hx hb hd rfl (hk _ h H locs ls hP hS hl)
  · exact lv_dup hx hb hd (am_cat o (am_c1r q)) (hk _ h H locs ls hP hS hl)
theorem ok_d2 (hX : am_X p l R s m args meth c D cy o cc nL own rt) {pc : Nat} (hd : decode cc pc = .ok (.dup2, 1)) : am_OK p l e R s m args below meth c D cy o nL pc (im_d2) := by
  obtain ⟨hx, hb, hml, hr, hlocks, htab, hown, hts, hK, hxt, hZ, hl0, hRc, hRs⟩ := id hX
  intro L st g k res h hk H locs ls hP hS hl
  dsimp only [im_d2] at h
  rcases st with _ | ⟨y | y | q', _ | ⟨x | x | q, r⟩⟩ <;> try (cases h; done)
  exact lv_dup2_11 hx hb hd rfl (am_cat o (am_c1r q)) (hk _ h H locs ls hP hS hl)
theorem ok_i2s (hX : am_X p l R s m args meth c D cy o cc nL own rt) {pc : Nat} (hd : decode cc pc = .ok (.i2s, 1)) : am_OK p l e R s m args below meth c D cy o nL pc (im_i2s) := by
  obtain ⟨hx, hb, hml, hr, hlocks, htab, hown, hts, hK, hxt, hZ, hl0, hRc, hRs⟩ := id hX
  intro L st g k res h hk H locs ls hP hS hl
  dsimp only [im_i2s] at h
  rcases st with _ | ⟨x | x | q, r⟩ <;> try (cases h; done)
  exact lv_i2s hx hb hd rfl (hk _ h H locs ls hP hS hl)
theorem ok_i2l (hX : am_X p l R s m args meth c D cy o cc nL own rt) {pc : Nat} (hd : decode cc pc = .ok (.i2l, 1)) : am_OK p l e R s m args below meth c D cy o nL pc (im_i2l) := by
  obtain ⟨hx, hb, hml, hr, hlocks, htab, hown, hts, hK, hxt, hZ, hl0, hRc, hRs⟩ := id hX
  intro L st g k res h hk H locs ls hP hS hl
  dsimp only [im_i2l] at h
  rcases st with _ | ⟨x | x | q, r⟩ <;> try (cases h; done)
  exact lv_i2l hx hb hd rfl (hk _ h H locs ls hP hS hl)
theorem ok_add (hX : am_X p l R s m args meth c D cy o cc nL own rt) {pc : Nat} (hd : decode cc pc = .ok (.iadd, 1)) : am_OK p l e R s m args below meth c D cy o nL pc (im_add) := by
  obtain ⟨hx, hb, hml, hr, hlocks, htab, hown, hts, hK, hxt, hZ, hl0, hRc, hRs⟩ := id hX
  intro L st g k res h hk H locs ls hP hS hl
  dsimp only [im_add] at h
  rcases st with _ | ⟨y | y | q', _ | ⟨x | x | q, r⟩⟩ <;> try (cases h; done)
  exact lv_iadd hx hb hd (hk _ h H locs ls hP hS hl)
theorem ok_sub (hX : am_X p l R s m args meth c D cy o cc nL own rt) {pc : Nat} (hd : decode cc pc = .ok (.isub, 1)) : am_OK p l e R s m args below meth c D cy o nL pc (im_sub) := by
  obtain ⟨hx, hb, hml, hr, hlocks, htab, hown, hts, hK, hxt, hZ, hl0, hRc, hRs⟩ := id hX
  intro L st g k res h hk H locs ls hP hS hl
  dsimp only [im_sub] at h
  rcases st with _ | ⟨y | y | q', _ | ⟨x | x | q, r⟩⟩ <;> try (cases h; done)
  exact lv_isub hx hb hd (hk _ h H locs ls hP hS hl)
theorem ok_mul (hX : am_X p l R s m args meth c D cy o cc nL own rt) {pc : Nat} (hd : decode cc pc = .ok (.imul, 1)) : am_OK p l e R s m args below meth c D cy o nL pc (im_mul) := by
  obtain ⟨hx, hb, hml, hr, hlocks, htab, hown, hts, hK, hxt, hZ, hl0, hRc, hRs⟩ := id hX
  intro L st g k res h hk H locs ls hP hS hl
  dsimp only [im_mul] at h
  rcases st with _ | ⟨y | y | q', _ | ⟨x | x | q, r⟩⟩ <;> try (cases h; done)
  exact lv_imul hx hb hd (hk _ h H locs ls hP hS hl)
theorem ok_and (hX : am_X p l R s m args meth c D cy o cc nL own rt) {pc : Nat} (hd : decode cc pc = .ok (.iand, 1)) : am_OK p l e R s m args below meth c D cy o nL pc (im_and) := by
  obtain ⟨hx, hb, hml, hr, hlocks, htab, hown, hts, hK, hxt, hZ, hl0, hRc, hRs⟩ := id hX
  intro L st g k res h hk H locs ls hP hS hl
  dsimp only [im_and] at h
  rcases st with _ | ⟨y | y | q', _ | ⟨x | x | q, r⟩⟩ <;> try (cases h; done)
  exact lv_iand hx hb hd (hk _ h H locs ls hP hS hl)
theorem ok_shr (hX : am_X p l R s m args meth c D cy o cc nL own rt) {pc : Nat} (hd : decode cc pc = .ok (.ishr, 1)) : am_OK p l e R s m args below meth c D cy o nL pc (im_shr) := by
  obtain ⟨hx, hb, hml, hr, hlocks, htab, hown, hts, hK, hxt, hZ, hl0, hRc, hRs⟩ := id hX
  intro L st g k res h hk H locs ls hP hS hl
  dsimp only [im_shr] at h
  rcases st with _ | ⟨y | y | q', _ | ⟨x | x | q, r⟩⟩ <;> try (cases h; done)
  exact lv_ishr hx hb hd (hk _ h H locs ls hP hS hl)
theorem ok_ush (hX : am_X p l R s m args meth c D cy o cc nL own rt) {pc : Nat} (hd : decode cc pc = .ok (.iushr, 1)) : am_OK p l e R s m args below meth c D cy o nL pc (im_ush) := by
  obtain ⟨hx, hb, hml, hr, hlocks, htab, hown, hts, hK, hxt, hZ, hl0, hRc, hRs⟩ := id hX
  intro L st g k res h hk H locs ls hP hS hl
  dsimp only [im_ush] at h
  rcases st with _ | ⟨y | y | q', _ | ⟨x | x | q, r⟩⟩ <;> try (cases h; done)
  exact lv_iushr hx hb hd rfl (hk _ h H locs ls hP hS hl)
theorem ok_div (hX : am_X p l R s m args meth c D cy o cc nL own rt) {pc : Nat} (hd : decode cc pc = .ok (.idiv, 1)) : am_OK p l e R s m args below meth c D cy o nL pc (im_div) := by
  obtain ⟨hx, hb, hml, hr, hlocks, htab, hown, hts, hK, hxt, hZ, hl0, hRc, hRs⟩ := id hX
  intro L st g k res h hk H locs ls hP hS hl
  dsimp only [im_div] at h
  rcases st with _ | ⟨y | y | q', _ | ⟨x | x | q, r⟩⟩ <;> try (cases h; done)
  dsimp only at h
  obtain ⟨h1, h⟩ := am_g_some h
  exact lv_idiv hx hb hd (of_decide_eq_true h1) (hk _ h H locs ls hP hS hl)
theorem ok_rem (hX : am_X p l R s m args meth c D cy o cc nL own rt) {pc : Nat} (hd : decode cc pc = .ok (.irem, 1)) : am_OK p l e R s m args below meth c D cy o nL pc (im_rem) := by
  obtain ⟨hx, hb, hml, hr, hlocks, htab, hown, hts, hK, hxt, hZ, hl0, hRc, hRs⟩ := id hX
  intro L st g k res h hk H locs ls hP hS hl
  dsimp only [im_rem] at h
  rcases st with _ | ⟨y | y | q', _ | ⟨x | x | q, r⟩⟩ <;> try (cases h; done)
  dsimp only at h
  obtain ⟨h1, h⟩ := am_g_some h
  exact lv_irem hx hb hd (of_decide_eq_true h1) (hk _ h H locs ls hP hS hl)
theorem ok_feq (hX : am_X p l R s m args meth c D cy o cc nL own rt) {pc : Nat} {off : Int} {t : Nat} (hd : decode cc pc = .ok (.ifCond .eq off, 3)) (ht : (pc : Int) + off = (t : Int)) : am_OK p l e R s m args below meth c D cy o nL pc (im_feq t) := by
  obtain ⟨hx, hb, hml, hr, hlocks, htab, hown, hts, hK, hxt, hZ, hl0, hRc, hRs⟩ := id hX
  intro L st g k res h hk H locs ls hP hS hl
  dsimp only [im_feq] at h
  rcases st with _ | ⟨x | x | q, r⟩ <;> try (cases h; done)
  dsimp only at h
  refine lv_if_eq hx hb hd ht (fun q => ?_) (fun q => ?_)
  · rw [if_pos q] at h; exact hk _ h H locs ls hP hS hl
  · rw [if_neg q] at h; exact hk _ h H locs ls hP hS hl
theorem ok_ceq (hX : am_X p l R s m args meth c D cy o cc nL own rt) {pc : Nat} {off : Int} {t : Nat} (hd : decode cc pc = .ok (.if_icmp .eq off, 3)) (ht : (pc : Int) + off = (t : Int)) : am_OK p l e R s m args below meth c D cy o nL pc (im_ceq t) := by
  obtain ⟨hx, hb, hml, hr, hlocks, htab, hown, hts, hK, hxt, hZ, hl0, hRc, hRs⟩ := id hX
  intro L st g k res h hk H locs ls hP hS hl
  dsimp only [im_ceq] at h
  rcases st with _ | ⟨y | y | q', _ | ⟨x | x | q, r⟩⟩ <;> try (cases h; done)
  dsimp only at h
  refine lv_icmp_eq hx hb hd ht (fun q => ?_) (fun q => ?_)
  · rw [if_pos q] at h; exact hk _ h H locs ls hP hS hl
  · rw [if_neg q] at h; exact hk _ h H locs ls hP hS hl
theorem ok_fne (hX : am_X p l R s m args meth c D cy o cc nL own rt) {pc : Nat} {off : Int} {t : Nat} (hd : decode cc pc = .ok (.ifCond .ne off, 3)) (ht : (pc : Int) + off = (t : Int)) : am_OK p l e R s m args below meth c D cy o nL pc (im_fne t) := by
  obtain ⟨hx, hb, hml, hr, hlocks, htab, hown, hts, hK, hxt, hZ, hl0, hRc, hRs⟩ := id hX
  intro L st g k res h hk H locs ls hP hS hl
  dsimp only [im_fne] at h
  rcases st with _ | ⟨x | x | q, r⟩ <;> try (cases h; done)
  dsimp only at h
  refine lv_if_ne hx hb hd ht (fun q => ?_) (fun q => ?_)
  · rw [if_neg q] at h; exact hk _ h H locs ls hP hS hl
  · rw [if_pos q] at h; exact hk _ h H locs ls hP hS hl
theorem ok_cne (hX : am_X p l R s m args meth c D cy o cc nL own rt) {pc : Nat} {off : Int} {t : Nat} (hd : decode cc pc = .ok (.if_icmp .ne off, 3)) (ht : (pc : Int) + off = (t : Int)) : am_OK p l e R s m args below meth c D cy o nL pc (im_cne t) := by
  obtain ⟨hx, hb, hml, hr, hlocks, htab, hown, hts, hK, hxt, hZ, hl0, hRc, hRs⟩ := id hX
  intro L st g k res h hk H locs ls hP hS hl
  dsimp only [im_cne] at h
  rcases st with _ | ⟨y | y | q', _ | ⟨x | x | q, r⟩⟩ <;> try (cases h; done)
  dsimp only at h
  refine lv_icmp_ne hx hb hd ht (fun q => ?_) (fun q => ?_)
  · rw [if_neg q] at h; exact hk _ h H locs ls hP hS hl
  · rw [if_pos q] at h; exact hk _ h H locs ls hP hS hl
theorem ok_flt (hX : am_X p l R s m args meth c D cy o cc nL own rt) {pc : Nat} {off : Int} {t : Nat} (hd : decode cc pc = .ok (.ifCond .lt off, 3)) (ht : (pc : Int) + off = (t : Int)) : am_OK p l e R s m args below meth c D cy o nL pc (im_flt t) := by
  obtain ⟨hx, hb, hml, hr, hlocks, htab, hown, hts, hK, hxt, hZ, hl0, hRc, hRs⟩ := id hX
  intro L st g k res h hk H locs ls hP hS hl
  dsimp only [im_flt] at h
  rcases st with _ | ⟨x | x | q, r⟩ <;> try (cases h; done)
  dsimp only at h
  refine lv_if_lt hx hb hd ht (fun q => ?_) (fun q => ?_)
  · rw [if_pos q] at h; exact hk _ h H locs ls hP hS hl
  · rw [if_neg q] at h; exact hk _ h H locs ls hP hS hl
theorem ok_clt (hX : am_X p l R s m args meth c D cy o cc nL own rt) {pc : Nat} {off : Int} {t : Nat} (hd : decode cc pc = .ok (.if_icmp .lt off, 3)) (ht : (pc : Int) + off = (t : Int)) : am_OK p l e R s m args below meth c D cy o nL pc (im_clt t) := by
  obtain ⟨hx, hb, hml, hr, hlocks, htab, hown, hts, hK, hxt, hZ, hl0, hRc, hRs⟩ := id hX
  intro L st g k res h hk H locs ls hP hS hl
  dsimp only [im_clt] at h
  rcases st with _ | ⟨y | y | q', _ | ⟨x | x | q, r⟩⟩ <;> try (cases h; done)
  dsimp only at h
  refine lv_icmp_lt hx hb hd ht (fun q => ?_) (fun q => ?_)
  · rw [if_pos q] at h; exact hk _ h H locs ls hP hS hl
  · rw [if_neg q] at h; exact hk _ h H locs ls hP hS hl
theorem ok_fge (hX : am_X p l R s m args meth c D cy o cc nL own rt) {pc : Nat} {off : Int} {t : Nat} (hd : decode cc pc = .ok (.ifCond .ge off, 3)) (ht : (pc : Int) + off = (t : Int)) : am_OK p l e R s m args below meth c D cy o nL pc (im_fge t) := by
  obtain ⟨hx, hb, hml, hr, hlocks, htab, hown, hts, hK, hxt, hZ, hl0, hRc, hRs⟩ := id hX
  intro L st g k res h hk H locs ls hP hS hl
  dsimp only [im_fge] at h
  rcases st with _ | ⟨x | x | q, r⟩ <;> try (cases h; done)
  dsimp only at h
  refine lv_if_ge hx hb hd ht (fun q => ?_) (fun q => ?_)
  · rw [if_pos q] at h; exact hk _ h H locs ls hP hS hl
  · rw [if_neg q] at h; exact hk _ h H locs ls hP hS hl
theorem ok_cge (hX : am_X p l R s m args meth c D cy o cc nL own rt) {pc : Nat} {off : Int} {t : Nat} (hd : decode cc pc = .ok (.if_icmp .ge off, 3)) (ht : (pc : Int) + off = (t : Int)) : am_OK p l e R s m args below meth c D cy o nL pc (im_cge t) := by
  obtain ⟨hx, hb, hml, hr, hlocks, htab, hown, hts, hK, hxt, hZ, hl0, hRc, hRs⟩ := id hX
  intro L st g k res h hk H locs ls hP hS hl
  dsimp only [im_cge] at h
  rcases st with _ | ⟨y | y | q', _ | ⟨x | x | q, r⟩⟩ <;> try (cases h; done)
  dsimp only at h
  refine lv_icmp_ge hx hb hd ht (fun q => ?_) (fun q => ?_)
  · rw [if_pos q] at h; exact hk _ h H locs ls hP hS hl
  · rw [if_neg q] at h; exact hk _ h H locs ls hP hS hl
theorem ok_fgt (hX : am_X p l R s m args meth c D cy o cc nL own rt) {pc : Nat} {off : Int} {t : Nat} (hd : decode cc pc = .ok (.ifCond .gt off, 3)) (ht : (pc : Int) + off = (t : Int)) : am_OK p l e R s m args below meth c D cy o nL pc (im_fgt t) := by
  obtain ⟨hx, hb, hml, hr, hlocks, htab, hown, hts, hK, hxt, hZ, hl0, hRc, hRs⟩ := id hX
  intro L st g k res h hk H locs ls hP hS hl
  dsimp only [im_fgt] at h
  rcases st with _ | ⟨x | x | q, r⟩ <;> try (cases h; done)
  dsimp only at h
  refine lv_if_gt hx hb hd ht (fun q => ?_) (fun q => ?_)
  · rw [if_pos q] at h; exact hk _ h H locs ls hP hS hl
  · rw [if_neg q] at h; exact hk _ h H locs ls hP hS hl
theorem ok_cgt (hX : am_X p l R s m args meth c D cy o cc nL own rt) {pc : Nat} {off : Int} {t : Nat} (hd : decode cc pc = .ok (.if_icmp .gt off, 3)) (ht : (pc : Int) + off = (t : Int)) : am_OK p l e R s m args below meth c D cy o nL pc (im_cgt t) := by
  obtain ⟨hx, hb, hml, hr, hlocks, htab, hown, hts, hK, hxt, hZ, hl0, hRc, hRs⟩ := id hX
  intro L st g k res h hk H locs ls hP hS hl
  dsimp only [im_cgt] at h
  rcases st with _ | ⟨y | y | q', _ | ⟨x | x | q, r⟩⟩ <;> try (cases h; done)
  dsimp only at h
  refine lv_icmp_gt hx hb hd ht (fun q => ?_) (fun q => ?_)
  · rw [if_pos q] at h; exact hk _ h H locs ls hP hS hl
  · rw [if_neg q] at h; exact hk _ h H locs ls hP hS hl
theorem ok_fle (hX : am_X p l R s m args meth c D cy o cc nL own rt) {pc : Nat} {off : Int} {t : Nat} (hd : decode cc pc = .ok (.ifCond .le off, 3)) (ht : (pc : Int) + off = (t : Int)) : am_OK p l e R s m args below meth c D cy o nL pc (im_fle t) := by
  obtain ⟨hx, hb, hml, hr, hlocks, htab, hown, hts, hK, hxt, hZ, hl0, hRc, hRs⟩ := id hX
  intro L st g k res h hk H locs ls hP hS hl
  dsimp only [im_fle] at h
  rcases st with _ | ⟨x | x | q, r⟩ <;> try (cases h; done)
  dsimp only at h
  refine lv_if_le hx hb hd ht (fun q => ?_) (fun q => ?_)
  · rw [if_pos q] at h; exact hk _ h H locs ls hP hS hl
  · rw [if_neg q] at h; exact hk _ h H locs ls hP hS hl
theorem ok_cle (hX : am_X p l R s m args meth c D cy o cc nL own rt) {pc : Nat} {off : Int} {t : Nat} (hd : decode cc pc = .ok (.if_icmp .le off, 3)) (ht : (pc : Int) + off = (t : Int)) : am_OK p l e R s m args below meth c D cy o nL pc (im_cle t) := by
  obtain ⟨hx, hb, hml, hr, hlocks, htab, hown, hts, hK, hxt, hZ, hl0, hRc, hRs⟩ := id hX
  intro L st g k res h hk H locs ls hP hS hl
  dsimp only [im_cle] at h
  rcases st with _ | ⟨y | y | q', _ | ⟨x | x | q, r⟩⟩ <;> try (cases h; done)
  dsimp only at h
  refine lv_icmp_le hx hb hd ht (fun q => ?_) (fun q => ?_)
  · rw [if_pos q] at h; exact hk _ h H locs ls hP hS hl
  · rw [if_neg q] at h; exact hk _ h H locs ls hP hS hl
theorem am_rf_many {o f : Nat} {x : Int32} (h : (!(Nat.beq (am_ct f) 1)) = true) : am_rf o f x = am_rO o f x := by
  unfold am_rf
  cases hb : Nat.beq (am_ct f) 1 with
  | true => rw [hb] at h; cases h
  | false => rfl
theorem ok_nu (hX : am_X p l R s m args meth c D cy o cc nL own rt) {pc : Nat} {off : Int} {t : Nat} (hd : decode cc pc = .ok (.ifnull off, 3)) (ht : (pc : Int) + off = (t : Int)) : am_OK p l e R s m args below meth c D cy o nL pc (im_nu t) := by
  obtain ⟨hx, hb, hml, hr, hlocks, htab, hown, hts, hK, hxt, hZ, hl0, hRc, hRs⟩ := id hX
  intro L st g k res h hk H locs ls hP hS hl
  dsimp only [im_nu] at h
  rcases st with _ | ⟨x | x | q, r⟩ <;> try (cases h; done)
  dsimp only at h
  obtain ⟨h1, h⟩ := am_g_some h
  show W p l e R s m args below meth c H locs 0 0 _ (F0 m pc ls (am_cv o (.inr (.inr q)) :: r.map (am_cv o)))
  by_cases hq : q.2 < 0
  · rw [if_pos hq] at h
    rw [show am_cv o (.inr (.inr q)) = .null from am_cv_null (by rw [am_rf_many h1]; unfold am_rO; rw [if_pos hq])]
    exact lv_ifnullN hx hb hd ht (hk _ h H locs ls hP hS hl)
  · rw [if_neg hq] at h
    rw [show am_cv o (.inr (.inr q)) = .ref (o + am_ad q.1 q.2.toNatClampNeg) from am_cv_ref (by rw [am_rf_many h1]; unfold am_rO; rw [if_neg hq])]
    exact lv_ifnull hx hb hd (hk _ h H locs ls hP hS hl)
theorem ok_nn (hX : am_X p l R s m args meth c D cy o cc nL own rt) {pc : Nat} {off : Int} {t : Nat} (hd : decode cc pc = .ok (.ifnonnull off, 3)) (ht : (pc : Int) + off = (t : Int)) : am_OK p l e R s m args below meth c D cy o nL pc (im_nn t) := by
  obtain ⟨hx, hb, hml, hr, hlocks, htab, hown, hts, hK, hxt, hZ, hl0, hRc, hRs⟩ := id hX
  intro L st g k res h hk H locs ls hP hS hl
  dsimp only [im_nn] at h
  rcases st with _ | ⟨x | x | q, r⟩ <;> try (cases h; done)
  dsimp only at h
  obtain ⟨h1, h⟩ := am_g_some h
  show W p l e R s m args below meth c H locs 0 0 _ (F0 m pc ls (am_cv o (.inr (.inr q)) :: r.map (am_cv o)))
  by_cases hq : q.2 < 0
  · rw [if_pos hq] at h
    rw [show am_cv o (.inr (.inr q)) = .null from am_cv_null (by rw [am_rf_many h1]; unfold am_rO; rw [if_pos hq])]
    exact lv_ifnonnullN hx hb hd (hk _ h H locs ls hP hS hl)
  · rw [if_neg hq] at h
    rw [show am_cv o (.inr (.inr q)) = .ref (o + am_ad q.1 q.2.toNatClampNeg) from am_cv_ref (by rw [am_rf_many h1]; unfold am_rO; rw [if_neg hq])]
    exact lv_ifnonnull hx hb hd ht (hk _ h H locs ls hP hS hl)
theorem am_sz {H : Heap} {locs : List Loc} {Q : State → Prop} {gg : JFrame} (h : H.size = s.heap.size → W p l e R s m args below meth c H locs 0 0 Q gg) : W p l e R s m args below meth c H locs 0 0 Q gg := by
  intro T hT X
  refine h ?_ T hT X
  have h1 := X.heapSize
  have h2 : s.heap.size ≤ T.heap.size := X.same.2.1
  rw [← hT]
  omega
theorem am_i_neg {x : Int32} (h1 : am_nn x = true) (h2 : x < 0) : x = -1 := by
  have a : (-1 : Int32) ≤ x := of_decide_eq_true h1
  rw [Int32.le_iff_toInt_le] at a
  rw [Int32.lt_iff_toInt_lt] at h2
  apply Int32.toInt_inj.mp
  have e : (-1 : Int32).toInt = -1 := by decide
  have e0 : (0 : Int32).toInt = 0 := by decide
  rw [e] at a ⊢
  rw [e0] at h2
  omega
theorem am_ad_inj {f a b : Nat} (hf : (!(Nat.beq (am_ct f) 1)) = true) (h : am_ad f a = am_ad f b) : a = b := by
  have h1 : ¬ am_ct f = 1 := fun q => by rw [q] at hf; cases hf
  have h2 : ¬ (f < 5 ∨ (7 ≤ f ∧ f < 19) ∨ 24 ≤ f) := fun q => h1 (am_ct_1 q)
  unfold am_ad at h
  by_cases q1 : f < 7
  · rw [if_neg (by omega), if_pos q1, if_neg (by omega), if_pos q1] at h
    omega
  · rw [if_neg (by omega), if_neg q1, if_neg (by omega), if_pos (by omega), if_neg (by omega), if_neg q1, if_neg (by omega), if_pos (by omega)] at h
    omega
theorem am_rO_inj {o f : Nat} {x y : Int32} (hf : (!(Nat.beq (am_ct f) 1)) = true) (hx : am_nn x = true) (hy : am_nn y = true) : am_rO o f x = am_rO o f y ↔ x = y := by
  refine ⟨fun h => ?_, fun h => by rw [h]⟩
  unfold am_rO at h
  by_cases h1 : x < 0
  · by_cases h2 : y < 0
    · rw [am_i_neg hx h1, am_i_neg hy h2]
    · rw [if_pos h1, if_neg h2] at h
      cases h
  · by_cases h2 : y < 0
    · rw [if_neg h1, if_pos h2] at h
      cases h
    · rw [if_neg h1, if_neg h2] at h
      have h3 := am_ad_inj hf (Nat.add_left_cancel (Option.some.inj h))
      obtain ⟨j, hj, rfl⟩ := nI_of h1
      obtain ⟨j', hj', rfl⟩ := nI_of h2
      rw [nI_clamp hj, nI_clamp hj'] at h3
      rw [h3]
theorem ok_an (hX : am_X p l R s m args meth c D cy o cc nL own rt) {pc : Nat} {off : Int} {t : Nat} (hd : decode cc pc = .ok (.if_acmp .ne off, 3)) (ht : (pc : Int) + off = (t : Int)) : am_OK p l e R s m args below meth c D cy o nL pc (im_an t) := by
  obtain ⟨hx, hb, hml, hr, hlocks, htab, hown, hts, hK, hxt, hZ, hl0, hRc, hRs⟩ := id hX
  intro L st g k res h hk H locs ls hP hS hl
  dsimp only [im_an] at h
  rcases st with _ | ⟨y | y | q', _ | ⟨x | x | q, r⟩⟩ <;> try (cases h; done)
  dsimp only at h
  obtain ⟨h1, h⟩ := am_g_some h
  obtain ⟨h2, h⟩ := am_g_some h
  obtain ⟨h3, h⟩ := am_g_some h
  rw [Bool.and_eq_true] at h1
  have e := Nat.eq_of_beq_eq_true h1.1
  have hi : am_rf o q.1 q.2 = am_rf o q'.1 q'.2 ↔ q.2 = q'.2 := by
    rw [← e, am_rf_many h1.2, am_rf_many h1.2]
    exact am_rO_inj h1.2 h2 h3
  refine lv_acmp_ne (rx := am_rf o q.1 q.2) (ry := am_rf o q'.1 q'.2) hx hb hd ht (fun z => ?_) (fun z => ?_)
  · rw [if_neg (fun w => z (hi.mpr w))] at h
    exact hk _ h H locs ls hP hS hl
  · rw [if_pos (hi.mp z)] at h
    exact hk _ h H locs ls hP hS hl
theorem am_sw_eq {x : Int32} {d : Nat} {kk : Nat → am_R} : ∀ (ts : List Nat) (lo : Int32), lo.toInt + ts.length < 2147483648 → am_sw x lo d kk ts = kk (if lo.toInt ≤ x.toInt ∧ x.toInt < lo.toInt + ts.length then ts.getD (x.toInt - lo.toInt).toNat d else d) := by
  intro ts
  induction ts with
  | nil =>
    intro lo h
    rw [if_neg (by simp only [List.length_nil]; omega)]
    rfl
  | cons t ts ih =>
    intro lo h
    unfold am_sw
    rw [List.length_cons] at h
    have e1 : (lo + 1).toInt = lo.toInt + 1 := by
      have h1 := Int32.le_toInt lo
      have e : (1 : Int32).toInt = 1 := by decide
      rw [Int32.toInt_add, e]
      apply Int.bmod_eq_of_le <;> omega
    by_cases hx : x = lo
    · subst hx
      rw [if_pos rfl, if_pos (by rw [List.length_cons]; omega)]
      simp
    · rw [if_neg hx, ih (lo + 1) (by rw [e1]; omega), e1]
      have hne : x.toInt ≠ lo.toInt := fun z => hx (Int32.toInt_inj.mp z)
      congr 1
      rw [List.length_cons]
      by_cases hc : lo.toInt + 1 ≤ x.toInt ∧ x.toInt < lo.toInt + 1 + ts.length
      · rw [if_pos hc, if_pos (by omega)]
        have e2 : (x.toInt - lo.toInt).toNat = (x.toInt - (lo.toInt + 1)).toNat + 1 := by omega
        rw [e2, List.getD_cons_succ]
      · rw [if_neg hc, if_neg (by omega)]
theorem ok_ts (hX : am_X p l R s m args meth c D cy o cc nL own rt) {pc : Nat} {lo : Int32} {loI hiI df : Int} {ts : List Nat} {d len : Nat} {offs : Array Int} (hd : decode cc pc = .ok (.tableswitch df loI hiI offs, len)) (hlo : lo.toInt = loI) (hhi : hiI = loI + ts.length - 1) (hdf : (pc : Int) + df = (d : Int)) (ho : offs = (ts.map (fun t : Nat => (t : Int) - pc)).toArray) (hsm : loI + ts.length < 2147483648) : am_OK p l e R s m args below meth c D cy o nL pc (im_ts lo ts d) := by
  obtain ⟨hx, hb, hml, hr, hlocks, htab, hown, hts, hK, hxt, hZ, hl0, hRc, hRs⟩ := id hX
  intro L st g k res h hk H locs ls hP hS hl
  dsimp only [im_ts] at h
  rcases st with _ | ⟨x | x | q, r⟩ <;> try (cases h; done)
  dsimp only at h
  rw [am_sw_eq ts lo (by rw [hlo]; exact hsm), hlo] at h
  by_cases hc : loI ≤ x.toInt ∧ x.toInt < loI + ts.length
  · rw [if_pos hc] at h
    have hlt : (x.toInt - loI).toNat < ts.length := by omega
    refine lv_tableIn (tgt := ts.getD (x.toInt - loI).toNat d) hx hb hd (by omega) (by omega) (off := ((ts.getD (x.toInt - loI).toNat d : Nat) : Int) - pc) ?_ (by omega) (hk _ h H locs ls hP hS hl)
    rw [ho]
    simp [hlt]
  · rw [if_neg hc] at h
    exact lv_tableOut hx hb hd (by omega) hdf (hk _ h H locs ls hP hS hl)
theorem am_ce_obj {o : Nat} {cy : Nat → ClassId} {g : am_S} {f i : Nat} (h : am_ak f = 0) : am_ce o cy g f i = .inr (am_cl f, (List.range (am_nf f)).map (am_sv o g f i)) := by simp only [am_ce, h]
theorem am_ce_arr {o : Nat} {cy : Nat → ClassId} {g : am_S} {f i n : Nat} (h : am_ak f = n + 1) : am_ce o cy g f i = .inl (cy (am_ay f), am_ln f, am_row o g f i) := by simp only [am_ce, h]
theorem am_fs_at {o : Nat} {g : am_S} {f i j : Nat} (h : j < am_nf f) : ((List.range (am_nf f)).map (am_sv o g f i))[j]? = some (am_sv o g f i j) := by simp [h]
theorem am_fs_up {o : Nat} {g : am_S} {f i j : Nat} {v : Int32} (hs : am_sk f j = 0) : ((List.range (am_nf f)).map (am_sv o g f i)).set j (.int v) = (List.range (am_nf f)).map (am_sv o (am_up g f i j v) f i) := by
  apply List.ext_getElem?
  intro k
  by_cases hk : k = j
  · subst hk
    by_cases hn : k < am_nf f
    · rw [List.getElem?_set_self (by simpa using hn), am_fs_at hn]
      unfold am_sv
      rw [hs]
      simp only [am_up_at]
    · rw [List.getElem?_eq_none (by simpa using hn), List.getElem?_eq_none (by simpa using hn)]
  · rw [List.getElem?_set_ne (Ne.symm hk)]
    by_cases hn : k < am_nf f
    · rw [am_fs_at hn, am_fs_at hn]
      unfold am_sv
      rw [am_up_j hk]
    · rw [List.getElem?_eq_none (by simpa using hn), List.getElem?_eq_none (by simpa using hn)]
theorem ok_gi (hX : am_X p l R s m args meth c D cy o cc nL own rt) {pc : Nat} {f j idx N : Nat} {C ref : String} {T : u_T} (hf : f < 46) (hak : am_ak f = 0) (hc : vwCl[am_cl f]? = some (C, T, N)) (hN : am_nf f = N) (hj : j < N) (hin : ∀ w ∈ u_ws C T N, w ∈ am_TB) (hlink : Cond.fieldLink own idx ref (T j).2.1 (T j).2.2.1 ∈ am_TB) (href : ref = (T j).1) (hs : am_sk f j = 0) (hd : decode cc pc = .ok (.getfield idx, 3)) : am_OK p l e R s m args below meth c D cy o nL pc (im_gi f j) := by
  obtain ⟨hx, hb, hml, hr, hlocks, htab, hown, hts, hK, hxt, hZ, hl0, hRc, hRs⟩ := id hX
  intro L st g k res h hk H locs ls hP hS hl
  dsimp only [im_gi] at h
  rcases st with _ | ⟨x | x | q, r⟩ <;> try (cases h; done)
  dsimp only at h
  obtain ⟨h1, h⟩ := am_g_some h
  have eq0 := Nat.eq_of_beq_eq_true h1
  obtain ⟨h, hi, hrf⟩ := am_gr_some (o := o) h
  show W p l e R s m args below meth c H locs 0 0 _ (F0 m pc ls (am_cv o (.inr (.inr q)) :: r.map (am_cv o)))
  rw [show am_cv o (.inr (.inr q)) = .ref (o + am_ad f (am_ix f q.2)) from am_cv_ref (by rw [eq0]; exact hrf)]
  have he := am_wl_get (o := o) (cy := cy) (g := g) hf hi
  rw [am_ce_obj hak] at he
  refine va_get hx hb hts hin hown hK hP _ he hc j hj (hts _ hlink) (fun _ z => by rw [href]; exact z) (v := am_sv o g f (am_ix f q.2) j) (by rw [am_fs_at (by omega)]) hd ?_
  have h2 := hk _ h H locs ls hP hS hl
  rw [show am_sv o g f (am_ix f q.2) j = .int (g f (am_ix f q.2) j) by simp only [am_sv, hs]]
  exact h2
theorem ok_gf (hX : am_X p l R s m args meth c D cy o cc nL own rt) {pc : Nat} {f j idx N : Nat} {C ref : String} {T : u_T} (hf : f < 46) (hak : am_ak f = 0) (hc : vwCl[am_cl f]? = some (C, T, N)) (hN : am_nf f = N) (hj : j < N) (hin : ∀ w ∈ u_ws C T N, w ∈ am_TB) (hlink : Cond.fieldLink own idx ref (T j).2.1 (T j).2.2.1 ∈ am_TB) (href : ref = (T j).1) {n : Nat} (hs : am_sk f j = n + 1) (hct : am_ct n = am_ct f) (hd : decode cc pc = .ok (.getfield idx, 3)) : am_OK p l e R s m args below meth c D cy o nL pc (im_gf f j n) := by
  obtain ⟨hx, hb, hml, hr, hlocks, htab, hown, hts, hK, hxt, hZ, hl0, hRc, hRs⟩ := id hX
  intro L st g k res h hk H locs ls hP hS hl
  dsimp only [im_gf] at h
  rcases st with _ | ⟨x | x | q, r⟩ <;> try (cases h; done)
  dsimp only at h
  obtain ⟨h1, h⟩ := am_g_some h
  have eq0 := Nat.eq_of_beq_eq_true h1
  obtain ⟨h, hi, hrf⟩ := am_gr_some (o := o) h
  show W p l e R s m args below meth c H locs 0 0 _ (F0 m pc ls (am_cv o (.inr (.inr q)) :: r.map (am_cv o)))
  rw [show am_cv o (.inr (.inr q)) = .ref (o + am_ad f (am_ix f q.2)) from am_cv_ref (by rw [eq0]; exact hrf)]
  have he := am_wl_get (o := o) (cy := cy) (g := g) hf hi
  rw [am_ce_obj hak] at he
  refine va_get hx hb hts hin hown hK hP _ he hc j hj (hts _ hlink) (fun _ z => by rw [href]; exact z) (v := am_sv o g f (am_ix f q.2) j) (by rw [am_fs_at (by omega)]) hd ?_
  have h2 := hk _ h H locs ls hP hS hl
  have e9 : am_rf o n q.2 = some (o + am_ad n (am_ix f q.2)) := by
    unfold am_rf am_ix at *
    rw [hct]
    cases hb9 : Nat.beq (am_ct f) 1 with
    | true => rfl
    | false =>
      rw [hb9] at hrf
      dsimp only at hrf ⊢
      unfold am_rO at hrf ⊢
      by_cases z : q.2 < 0
      · rw [if_pos z] at hrf; cases hrf
      · rw [if_neg z]
  rw [show am_sv o g f (am_ix f q.2) j = .ref (o + am_ad n (am_ix f q.2)) by simp only [am_sv, hs]]
  have e8 : am_cv o (.inr (.inr (n, q.2))) = .ref (o + am_ad n (am_ix f q.2)) := am_cv_ref e9
  rw [← e8]
  exact h2
theorem ok_pi (hX : am_X p l R s m args meth c D cy o cc nL own rt) {pc : Nat} {f j idx N : Nat} {C ref : String} {T : u_T} (hf : f < 46) (hak : am_ak f = 0) (hc : vwCl[am_cl f]? = some (C, T, N)) (hN : am_nf f = N) (hj : j < N) (hin : ∀ w ∈ u_ws C T N, w ∈ am_TB) (hlink : Cond.fieldLink own idx ref (T j).2.1 (T j).2.2.1 ∈ am_TB) (href : ref = (T j).1) (ty0 : Nat → FieldType) (hty : ∀ k, k < N → parseFieldDescriptor (T k).2.2.1 = some (ty0 k)) (hnm : ∀ a, a < N → ∀ b, b < N → a ≠ b → (T a).2.1 ≠ (T b).2.1) (hfin : (T j).2.2.2 = false) (hs : am_sk f j = 0) (hds : parseFieldDescriptor (T j).2.2.1 = some .int) (hd : decode cc pc = .ok (.putfield idx, 3)) : am_OK p l e R s m args below meth c D cy o nL pc (im_pi f j) := by
  obtain ⟨hx, hb, hml, hr, hlocks, htab, hown, hts, hK, hxt, hZ, hl0, hRc, hRs⟩ := id hX
  intro L st g k res h hk H locs ls hP hS hl
  dsimp only [im_pi] at h
  rcases st with _ | ⟨y | y | q', _ | ⟨x | x | q, r⟩⟩ <;> try (cases h; done)
  have hna : narrow .int (.int y) = .int y := rfl
  have hfi : fits .int (.int y) = true := rfl
  dsimp only at h
  obtain ⟨h1, h⟩ := am_g_some h
  have eq0 := Nat.eq_of_beq_eq_true h1
  obtain ⟨h, hi, hrf⟩ := am_gr_some (o := o) h
  show W p l e R s m args below meth c H locs 0 0 _ (F0 m pc ls (.int y :: am_cv o (.inr (.inr q)) :: r.map (am_cv o)))
  rw [show am_cv o (.inr (.inr q)) = .ref (o + am_ad f (am_ix f q.2)) from am_cv_ref (by rw [eq0]; exact hrf)]
  have he := am_wl_get (o := o) (cy := cy) (g := g) hf hi
  rw [am_ce_obj hak] at he
  refine va_put hx hb hts hin ty0 hty hnm hown hK hP (am_wl_D o cy g) hS _ he hc j hj (hts _ hlink) (fun _ z => by rw [href]; exact z) hfin (ty := .int) hds hna hfi (by simp only [List.length_map, List.length_range]; omega) hd (fun H1 locs1 hP1 _ hS1 => ?_)
  rw [am_fs_up hs, am_wl_set (g' := am_up g f (am_ix f q.2) j y) hf hi (am_ce_obj hak).symm (fun f' i' z => am_ce_off z)] at hP1
  exact hk _ h H1 locs1 ls hP1 hS1 hl
theorem am_b_or {x : Int32} (h : am_b x = true) : x = 0 ∨ x = 1 := by
  unfold am_b at h
  rw [Bool.or_eq_true] at h
  exact h.imp of_decide_eq_true of_decide_eq_true
theorem am_b_nar {x : Int32} (h : am_b x = true) : narrow .boolean (.int x) = .int x ∧ fits .boolean (.int x) = true ∧ vp_nar .boolean x = x := by
  rcases am_b_or h with rfl | rfl <;> decide
theorem ok_pz (hX : am_X p l R s m args meth c D cy o cc nL own rt) {pc : Nat} {f j idx N : Nat} {C ref : String} {T : u_T} (hf : f < 46) (hak : am_ak f = 0) (hc : vwCl[am_cl f]? = some (C, T, N)) (hN : am_nf f = N) (hj : j < N) (hin : ∀ w ∈ u_ws C T N, w ∈ am_TB) (hlink : Cond.fieldLink own idx ref (T j).2.1 (T j).2.2.1 ∈ am_TB) (href : ref = (T j).1) (ty0 : Nat → FieldType) (hty : ∀ k, k < N → parseFieldDescriptor (T k).2.2.1 = some (ty0 k)) (hnm : ∀ a, a < N → ∀ b, b < N → a ≠ b → (T a).2.1 ≠ (T b).2.1) (hfin : (T j).2.2.2 = false) (hs : am_sk f j = 0) (hds : parseFieldDescriptor (T j).2.2.1 = some .boolean) (hd : decode cc pc = .ok (.putfield idx, 3)) : am_OK p l e R s m args below meth c D cy o nL pc (im_pz f j) := by
  obtain ⟨hx, hb, hml, hr, hlocks, htab, hown, hts, hK, hxt, hZ, hl0, hRc, hRs⟩ := id hX
  intro L st g k res h hk H locs ls hP hS hl
  dsimp only [im_pz] at h
  rcases st with _ | ⟨y | y | q', _ | ⟨x | x | q, r⟩⟩ <;> try (cases h; done)
  dsimp only at h
  obtain ⟨h1, h⟩ := am_g_some h
  have eq0 := Nat.eq_of_beq_eq_true h1
  obtain ⟨h, hi, hrf⟩ := am_gr_some (o := o) h
  obtain ⟨hbb, h⟩ := am_g_some h
  obtain ⟨hna, hfi, -⟩ := am_b_nar hbb
  show W p l e R s m args below meth c H locs 0 0 _ (F0 m pc ls (.int y :: am_cv o (.inr (.inr q)) :: r.map (am_cv o)))
  rw [show am_cv o (.inr (.inr q)) = .ref (o + am_ad f (am_ix f q.2)) from am_cv_ref (by rw [eq0]; exact hrf)]
  have he := am_wl_get (o := o) (cy := cy) (g := g) hf hi
  rw [am_ce_obj hak] at he
  refine va_put hx hb hts hin ty0 hty hnm hown hK hP (am_wl_D o cy g) hS _ he hc j hj (hts _ hlink) (fun _ z => by rw [href]; exact z) hfin (ty := .boolean) hds hna hfi (by simp only [List.length_map, List.length_range]; omega) hd (fun H1 locs1 hP1 _ hS1 => ?_)
  rw [am_fs_up hs, am_wl_set (g' := am_up g f (am_ix f q.2) j y) hf hi (am_ce_obj hak).symm (fun f' i' z => am_ce_off z)] at hP1
  exact hk _ h H1 locs1 ls hP1 hS1 hl
theorem am_ak_lt {f n : Nat} (h : am_ak f = n) (hn : n < 7) : f < 46 := by
  rcases Nat.lt_or_ge f 46 with q | q
  · exact q
  · exfalso
    have : am_ak f = 7 := by
      unfold am_ak
      split <;> first | rfl | omega
    omega
theorem am_ay_1 {f : Nat} (h : am_ak f = 1) : am_ay f = 0 := by
  unfold am_ay
  split <;> first | (simp [am_ak] at h; done) | (simp only [h])
theorem am_ay_2 {f : Nat} (h : am_ak f = 2) : am_ay f = 1 := by
  unfold am_ay
  split <;> first | (simp [am_ak] at h; done) | (simp only [h])
theorem am_ay_3 {f : Nat} (h : am_ak f = 3) : am_ay f = 2 := by
  unfold am_ay
  split <;> first | (simp [am_ak] at h; done) | (simp only [h])
theorem am_ay_6 {f : Nat} (h : am_ak f = 6) : am_ay f = 4 := by
  unfold am_ay
  split <;> first | (simp [am_ak] at h; done) | (simp only [h])
theorem am_ay_4 {f : Nat} (h : am_ak f = 4) : (am_ay f = 3 ∧ am_af f = 19 ∧ am_ln f = 8) ∨ (am_ay f = 2 ∧ am_af f = 5 ∧ am_ln f = 128) := by
  have hf := am_ak_lt h (by omega)
  have key : ∀ f, f < 46 → am_ak f = 4 → f = 1 ∨ f = 3 := by decide
  rcases key f hf h with rfl | rfl
  · exact Or.inl ⟨rfl, rfl, rfl⟩
  · exact Or.inr ⟨rfl, rfl, rfl⟩
theorem ok_ia (hX : am_X p l R s m args meth c D cy o cc nL own rt) {pc : Nat} (hd : decode cc pc = .ok (.iaload, 1)) : am_OK p l e R s m args below meth c D cy o nL pc (im_ia) := by
  obtain ⟨hx, hb, hml, hr, hlocks, htab, hown, hts, hK, hxt, hZ, hl0, hRc, hRs⟩ := id hX
  intro L st g k res h hk H locs ls hP hS hl
  dsimp only [im_ia] at h
  rcases st with _ | ⟨y | y | q', _ | ⟨x | x | q, r⟩⟩ <;> try (cases h; done)
  dsimp only at h
  obtain ⟨h1, h⟩ := am_g_some h
  have ek : am_ak q.1 = 1 := Nat.eq_of_beq_eq_true h1
  have hf := am_ak_lt ek (by omega)
  obtain ⟨h, hi, hrf⟩ := am_gr_some (o := o) h
  obtain ⟨h3, h⟩ := am_g_some h
  have hvi := am_in_iff.mp h3
  show W p l e R s m args below meth c H locs 0 0 _ (F0 m pc ls (.int y :: am_cv o (.inr (.inr q)) :: r.map (am_cv o)))
  rw [show am_cv o (.inr (.inr q)) = .ref (o + am_ad q.1 (am_ix q.1 q.2)) from am_cv_ref hrf]
  have he := am_wl_get (o := o) (cy := cy) (g := g) hf hi
  rw [am_ce_arr ek, am_ay_1 ek, show am_row o g q.1 (am_ix q.1 q.2) = .inl (fun j => g q.1 (am_ix q.1 q.2) j) by simp only [am_row, ek]] at he
  exact va_iald hx hb hK hP _ 0 he rfl hvi hd (hk _ h H locs ls hP hS hl)
theorem ok_ba (hX : am_X p l R s m args meth c D cy o cc nL own rt) {pc : Nat} (hd : decode cc pc = .ok (.baload, 1)) : am_OK p l e R s m args below meth c D cy o nL pc (im_ba) := by
  obtain ⟨hx, hb, hml, hr, hlocks, htab, hown, hts, hK, hxt, hZ, hl0, hRc, hRs⟩ := id hX
  intro L st g k res h hk H locs ls hP hS hl
  dsimp only [im_ba] at h
  rcases st with _ | ⟨y | y | q', _ | ⟨x | x | q, r⟩⟩ <;> try (cases h; done)
  dsimp only at h
  obtain ⟨h1, h⟩ := am_g_some h
  have ek : am_ak q.1 = 2 := Nat.eq_of_beq_eq_true h1
  have hf := am_ak_lt ek (by omega)
  obtain ⟨h, hi, hrf⟩ := am_gr_some (o := o) h
  obtain ⟨h3, h⟩ := am_g_some h
  have hvi := am_in_iff.mp h3
  show W p l e R s m args below meth c H locs 0 0 _ (F0 m pc ls (.int y :: am_cv o (.inr (.inr q)) :: r.map (am_cv o)))
  rw [show am_cv o (.inr (.inr q)) = .ref (o + am_ad q.1 (am_ix q.1 q.2)) from am_cv_ref hrf]
  have he := am_wl_get (o := o) (cy := cy) (g := g) hf hi
  rw [am_ce_arr ek, am_ay_2 ek, show am_row o g q.1 (am_ix q.1 q.2) = .inl (fun j => g q.1 (am_ix q.1 q.2) j) by simp only [am_row, ek]] at he
  exact va_zald hx hb hK hP _ 1 he rfl hvi hd (hk _ h H locs ls hP hS hl)
theorem am_ce_up {o : Nat} {cy : Nat → ClassId} {g : am_S} {f i j n : Nat} {v : Int32} (ek : am_ak f = n + 1) (hr : am_row o (am_up g f i j v) f i = am_row o g f i ∨ True) : am_ce o cy (am_up g f i j v) f i = .inl (cy (am_ay f), am_ln f, am_row o (am_up g f i j v) f i) := am_ce_arr ek
theorem am_row_i {o : Nat} {g : am_S} {f i j : Nat} {v : Int32} (ek : am_ak f = 1 ∨ am_ak f = 2) : am_row o (am_up g f i j v) f i = .inl (upd (fun j => g f i j) j v) := by
  have e : (fun j' => am_up g f i j v f i j') = upd (fun j => g f i j) j v := by
    funext j'
    by_cases hj : j' = j
    · subst hj; simp [am_up, upd]
    · simp [am_up, upd, hj]
  unfold am_row
  rcases ek with ek | ek <;> simp only [ek, e]
theorem am_row_s {o : Nat} {g : am_S} {f i j : Nat} {v : Int32} (ek : am_ak f = 3) : am_row o (am_up g f i j v) f i = .inr (.inr (.inr (.inr (va_up (fun j => am_rO o 5 (g f i j)) j (am_rO o 5 v))))) := by
  have e : (fun j' => am_rO o 5 (am_up g f i j v f i j')) = va_up (fun j => am_rO o 5 (g f i j)) j (am_rO o 5 v) := by
    funext j'
    by_cases hj : j' = j
    · subst hj; simp [am_up, va_up]
    · simp [am_up, va_up, hj]
  simp only [am_row, ek, e]
theorem ok_ast (hX : am_X p l R s m args meth c D cy o cc nL own rt) {pc : Nat} (hd : decode cc pc = .ok (.iastore, 1)) : am_OK p l e R s m args below meth c D cy o nL pc (im_si) := by
  obtain ⟨hx, hb, hml, hr, hlocks, htab, hown, hts, hK, hxt, hZ, hl0, hRc, hRs⟩ := id hX
  intro L st g k res h hk H locs ls hP hS hl
  dsimp only [im_si] at h
  rcases st with _ | ⟨v | v | v, _ | ⟨y | y | y, _ | ⟨x | x | q, r⟩⟩⟩ <;> try (cases h; done)
  dsimp only at h
  obtain ⟨h1, h⟩ := am_g_some h
  have ek : am_ak q.1 = 1 := Nat.eq_of_beq_eq_true h1
  have hf := am_ak_lt ek (by omega)
  obtain ⟨h, hi, hrf⟩ := am_gr_some (o := o) h
  obtain ⟨h3, h⟩ := am_g_some h
  have hvi := am_in_iff.mp h3
  show W p l e R s m args below meth c H locs 0 0 _ (F0 m pc ls (.int v :: .int y :: am_cv o (.inr (.inr q)) :: r.map (am_cv o)))
  rw [show am_cv o (.inr (.inr q)) = .ref (o + am_ad q.1 (am_ix q.1 q.2)) from am_cv_ref hrf]
  have he := am_wl_get (o := o) (cy := cy) (g := g) hf hi
  rw [am_ce_arr ek, am_ay_1 ek, show am_row o g q.1 (am_ix q.1 q.2) = .inl (fun j => g q.1 (am_ix q.1 q.2) j) by simp only [am_row, ek]] at he
  refine va_iast hx hb hK hP (am_wl_D o cy g) hS _ 0 he rfl hvi hd (fun H1 locs1 hP1 _ hS1 => ?_)
  rw [am_wl_set (g' := am_up g q.1 (am_ix q.1 q.2) y.toNatClampNeg v) hf hi (by rw [am_ce_arr ek, am_ay_1 ek, am_row_i (Or.inl ek)]) (fun f' i' z => am_ce_off z)] at hP1
  exact hk _ h H1 locs1 ls hP1 hS1 hl
theorem ok_bst (hX : am_X p l R s m args meth c D cy o cc nL own rt) {pc : Nat} (hd : decode cc pc = .ok (.bastore, 1)) : am_OK p l e R s m args below meth c D cy o nL pc (im_sb) := by
  obtain ⟨hx, hb, hml, hr, hlocks, htab, hown, hts, hK, hxt, hZ, hl0, hRc, hRs⟩ := id hX
  intro L st g k res h hk H locs ls hP hS hl
  dsimp only [im_sb] at h
  rcases st with _ | ⟨v | v | v, _ | ⟨y | y | y, _ | ⟨x | x | q, r⟩⟩⟩ <;> try (cases h; done)
  dsimp only at h
  obtain ⟨h1, h⟩ := am_g_some h
  have ek : am_ak q.1 = 2 := Nat.eq_of_beq_eq_true h1
  have hf := am_ak_lt ek (by omega)
  obtain ⟨h, hi, hrf⟩ := am_gr_some (o := o) h
  obtain ⟨h3, h⟩ := am_g_some h
  have hvi := am_in_iff.mp h3
  obtain ⟨hbb, h⟩ := am_g_some h
  obtain ⟨-, -, hnr⟩ := am_b_nar hbb
  show W p l e R s m args below meth c H locs 0 0 _ (F0 m pc ls (.int v :: .int y :: am_cv o (.inr (.inr q)) :: r.map (am_cv o)))
  rw [show am_cv o (.inr (.inr q)) = .ref (o + am_ad q.1 (am_ix q.1 q.2)) from am_cv_ref hrf]
  have he := am_wl_get (o := o) (cy := cy) (g := g) hf hi
  rw [am_ce_arr ek, am_ay_2 ek, show am_row o g q.1 (am_ix q.1 q.2) = .inl (fun j => g q.1 (am_ix q.1 q.2) j) by simp only [am_row, ek]] at he
  refine va_zast hx hb hK hP (am_wl_D o cy g) hS _ 1 he rfl hvi hd (fun H1 locs1 hP1 _ hS1 => ?_)
  rw [hnr, am_wl_set (g' := am_up g q.1 (am_ix q.1 q.2) y.toNatClampNeg v) hf hi (by rw [am_ce_arr ek, am_ay_2 ek, am_row_i (Or.inr ek)]) (fun f' i' z => am_ce_off z)] at hP1
  exact hk _ h H1 locs1 ls hP1 hS1 hl
theorem am_cv_s {o : Nat} {x : Int32} : am_cv o (.inr (.inr (5, x))) = va_rf (am_rO o 5 x) := rfl
theorem ok_aa (hX : am_X p l R s m args meth c D cy o cc nL own rt) {pc : Nat} (hd : decode cc pc = .ok (.aaload, 1)) : am_OK p l e R s m args below meth c D cy o nL pc (im_aa) := by
  obtain ⟨hx, hb, hml, hr, hlocks, htab, hown, hts, hK, hxt, hZ, hl0, hRc, hRs⟩ := id hX
  intro L st g k res h hk H locs ls hP hS hl
  dsimp only [im_aa] at h
  rcases st with _ | ⟨y | y | q', _ | ⟨x | x | q, r⟩⟩ <;> try (cases h; done)
  dsimp only at h
  by_cases ek : am_ak q.1 = 3
  · rw [ek] at h
    have hf := am_ak_lt ek (by omega)
    obtain ⟨h, hi, hrf⟩ := am_gr_some (o := o) h
    obtain ⟨h3, h⟩ := am_g_some h
    have hvi := am_in_iff.mp h3
    show W p l e R s m args below meth c H locs 0 0 _ (F0 m pc ls (.int y :: am_cv o (.inr (.inr q)) :: r.map (am_cv o)))
    rw [show am_cv o (.inr (.inr q)) = .ref (o + am_ad q.1 (am_ix q.1 q.2)) from am_cv_ref hrf]
    have he := am_wl_get (o := o) (cy := cy) (g := g) hf hi
    rw [am_ce_arr ek, am_ay_3 ek, show am_row o g q.1 (am_ix q.1 q.2) = .inr (.inr (.inr (.inr (fun j => am_rO o 5 (g q.1 (am_ix q.1 q.2) j))))) by simp only [am_row, ek]] at he
    exact va_aldq hx hb hK hP _ 2 he rfl hvi hd (hk _ h H locs ls hP hS hl)
  · by_cases ek : am_ak q.1 = 4
    · rw [ek] at h
      have hf := am_ak_lt ek (by omega)
      obtain ⟨h, hi, hrf⟩ := am_gr_some (o := o) h
      obtain ⟨h3, h⟩ := am_g_some h
      have hvi := am_in_iff.mp h3
      show W p l e R s m args below meth c H locs 0 0 _ (F0 m pc ls (.int y :: am_cv o (.inr (.inr q)) :: r.map (am_cv o)))
      rw [show am_cv o (.inr (.inr q)) = .ref (o + am_ad q.1 (am_ix q.1 q.2)) from am_cv_ref hrf]
      have he := am_wl_get (o := o) (cy := cy) (g := g) hf hi
      rw [am_ce_arr ek, show am_row o g q.1 (am_ix q.1 q.2) = .inr (.inr (.inr (.inr (fun j => some (o + am_ad (am_af q.1) j))))) by simp only [am_row, ek]] at he
      have h2 := hk _ h H locs ls hP hS hl
      have h0 : ¬ y < 0 := fun z => hvi (Or.inl z)
      have e8 : am_cv o (.inr (.inr (am_af q.1, y))) = va_rf (some (o + am_ad (am_af q.1) y.toNatClampNeg)) := by
        show va_rf (am_rf o (am_af q.1) y) = _
        rw [am_rf_many (by rcases am_ay_4 ek with ⟨-, z, -⟩ | ⟨-, z, -⟩ <;> rw [z] <;> rfl)]
        unfold am_rO
        rw [if_neg h0]
      rcases am_ay_4 ek with ⟨z1, z2, z3⟩ | ⟨z1, z2, z3⟩
      · rw [z1] at he
        refine va_aldq (f := fun j => some (o + am_ad (am_af q.1) j)) hx hb hK hP _ 3 he rfl hvi hd ?_
        rw [← e8]
        exact h2
      · rw [z1] at he
        refine va_aldq (f := fun j => some (o + am_ad (am_af q.1) j)) hx hb hK hP _ 2 he rfl hvi hd ?_
        rw [← e8]
        exact h2
    · exfalso
      revert h
      split
      · exact fun _ => by contradiction
      · exact fun _ => by contradiction
      · exact fun z => by cases z
theorem ok_sta (hX : am_X p l R s m args meth c D cy o cc nL own rt) {pc : Nat} (hd : decode cc pc = .ok (.aastore, 1)) : am_OK p l e R s m args below meth c D cy o nL pc (im_sa) := by
  obtain ⟨hx, hb, hml, hr, hlocks, htab, hown, hts, hK, hxt, hZ, hl0, hRc, hRs⟩ := id hX
  intro L st g k res h hk H locs ls hP hS hl
  dsimp only [im_sa] at h
  rcases st with _ | ⟨v | v | v, _ | ⟨y | y | y, _ | ⟨x | x | q, r⟩⟩⟩ <;> try (cases h; done)
  obtain ⟨v1, v2⟩ := v
  dsimp only at h
  obtain ⟨h1, h⟩ := am_g_some h
  rw [Bool.and_eq_true] at h1
  have ev := Nat.eq_of_beq_eq_true h1.1
  have ek : am_ak q.1 = 3 := Nat.eq_of_beq_eq_true h1.2
  have hf := am_ak_lt ek (by omega)
  obtain ⟨h, hi, hrf⟩ := am_gr_some (o := o) h
  obtain ⟨h3, h⟩ := am_g_some h
  have hvi := am_in_iff.mp h3
  obtain ⟨hnv, h4⟩ := am_g_some h
  show W p l e R s m args below meth c H locs 0 0 _ (F0 m pc ls (am_cv o (.inr (.inr (v1, v2))) :: .int y :: am_cv o (.inr (.inr q)) :: r.map (am_cv o)))
  rw [show am_cv o (.inr (.inr q)) = .ref (o + am_ad q.1 (am_ix q.1 q.2)) from am_cv_ref hrf]
  have he := am_wl_get (o := o) (cy := cy) (g := g) hf hi
  rw [am_ce_arr ek, am_ay_3 ek, show am_row o g q.1 (am_ix q.1 q.2) = .inr (.inr (.inr (.inr (fun j => am_rO o 5 (g q.1 (am_ix q.1 q.2) j))))) by simp only [am_row, ek]] at he
  subst ev
  by_cases hv0 : v2 < 0
  · rw [show am_cv o (.inr (.inr (5, v2))) = .null from am_cv_null (by show am_rO o 5 v2 = none; unfold am_rO; rw [if_pos hv0])]
    refine va_astqN hx hb hK hP (am_wl_D o cy g) hS _ 2 he rfl hvi hd (fun H1 locs1 hP1 _ hS1 => ?_)
    rw [am_wl_set (g' := am_up g q.1 (am_ix q.1 q.2) y.toNatClampNeg v2) hf hi (by rw [am_ce_arr ek, am_ay_3 ek, am_row_s ek, show am_rO o 5 v2 = none by unfold am_rO; rw [if_pos hv0]]) (fun f' i' z => am_ce_off z)] at hP1
    exact hk _ h4 H1 locs1 ls hP1 hS1 hl
  · have hin : am_in v2 128 = true := by
      unfold am_nv at hnv
      rw [Bool.or_eq_true] at hnv
      rcases hnv with z | z
      · exact absurd (of_decide_eq_true z) hv0
      · exact z
    have hlt : v2.toNatClampNeg < am_ct 5 := Nat.not_le.mp (fun z => (am_in_iff.mp hin) (Or.inr z))
    rw [show am_cv o (.inr (.inr (5, v2))) = .ref (o + am_ad 5 v2.toNatClampNeg) from am_cv_ref (by show am_rO o 5 v2 = _; unfold am_rO; rw [if_neg hv0])]
    have hvv := am_wl_get (o := o) (cy := cy) (g := g) (f := 5) (by omega) hlt
    rw [am_ce_obj rfl] at hvv
    refine va_astq hx hb hK hP (am_wl_D o cy g) hS _ 2 _ 3 (r := (RX3, TX3, 8)) he rfl hvv rfl hvi hd (fun H1 locs1 hP1 _ hS1 => ?_)
    rw [am_wl_set (g' := am_up g q.1 (am_ix q.1 q.2) y.toNatClampNeg v2) hf hi (by rw [am_ce_arr ek, am_ay_3 ek, am_row_s ek, show am_rO o 5 v2 = some (o + am_ad 5 v2.toNatClampNeg) by unfold am_rO; rw [if_neg hv0]]) (fun f' i' z => am_ce_off z)] at hP1
    exact hk _ h4 H1 locs1 ls hP1 hS1 hl
end AMS
