section AMC
variable {p : Program} {l : Launch} {e : Env} {R : Room} {s : State} {m : MethodId} {args : Array Value} {below : List Frame} {meth : Method} {c : Code}
variable {D : va_G} {cy : Nat → ClassId} {o : Nat} {cc : ByteArray} {nL : Nat} {own : String} {rt : Option FieldType}
theorem am_SF {H : Heap} {locs : List Loc} (hS : va_S (am_A o) s.heap H locs) {t : State} (ht : t.heap = H) : va_F (am_A o) s t := ⟨by rw [ht]; exact hS.1, fun q h1 h2 => by rw [ht]; exact hS.2.1 q h1 h2⟩
theorem ok_ri (hX : am_X p l R s m args meth c D cy o cc nL own rt) {pc : Nat} (hd : decode cc pc = .ok (.ireturn, 1)) (hrt : rt = some .int) : am_OK p l e R s m args below meth c D cy o nL pc (im_ri) := by
  obtain ⟨hx, hb, hml, hr, hlocks, htab, hown, hts, hK, hxt, hZ, hl0, hRc, hRs⟩ := id hX
  intro L st g k res h hk H locs ls hP hS hl
  dsimp only [im_ri] at h
  rcases st with _ | ⟨x | x | q, _ | ⟨z, r⟩⟩ <;> try (cases h; done)
  cases h
  refine am_sz (fun hz => ?_)
  refine W.widen (k := 1) (n := 6) (Nat.zero_le _) (Nat.zero_le _) ?_
  refine vx_ret ?_
  exact W.iret (v := x) hx hb (hr.trans hrt) (fun t ht hW => ⟨⟨_, rfl, rfl⟩, by rw [ht]; exact hP, am_SF hS ht, by rw [ht]; exact hz⟩) hS.2.2 hd hlocks
theorem ok_rz (hX : am_X p l R s m args meth c D cy o cc nL own rt) {pc : Nat} (hd : decode cc pc = .ok (.ireturn, 1)) (hrt : rt = some .boolean) : am_OK p l e R s m args below meth c D cy o nL pc (im_rz) := by
  obtain ⟨hx, hb, hml, hr, hlocks, htab, hown, hts, hK, hxt, hZ, hl0, hRc, hRs⟩ := id hX
  intro L st g k res h hk H locs ls hP hS hl
  dsimp only [im_rz] at h
  rcases st with _ | ⟨x | x | q, _ | ⟨z, r⟩⟩ <;> try (cases h; done)
  dsimp only at h
  obtain ⟨h1, h⟩ := am_g_some h
  cases h
  refine am_sz (fun hz => ?_)
  refine W.widen (k := 1) (n := 6) (Nat.zero_le _) (Nat.zero_le _) ?_
  refine vx_ret ?_
  exact W.zret (v := x) hx hb (hr.trans hrt) (am_b_nar h1).1 (fun t ht hW => ⟨⟨_, rfl, rfl⟩, by rw [ht]; exact hP, am_SF hS ht, by rw [ht]; exact hz⟩) hS.2.2 hd hlocks
theorem ok_ra (hX : am_X p l R s m args meth c D cy o cc nL own rt) {pc : Nat} {C : String} (hd : decode cc pc = .ok (.areturn, 1)) (hrt : rt = some (.object C)) : am_OK p l e R s m args below meth c D cy o nL pc (im_ra) := by
  obtain ⟨hx, hb, hml, hr, hlocks, htab, hown, hts, hK, hxt, hZ, hl0, hRc, hRs⟩ := id hX
  intro L st g k res h hk H locs ls hP hS hl
  dsimp only [im_ra] at h
  rcases st with _ | ⟨x | x | q, _ | ⟨z, r⟩⟩ <;> try (cases h; done)
  cases h
  refine am_sz (fun hz => ?_)
  refine W.widen (k := 1) (n := 6) (Nat.zero_le _) (Nat.zero_le _) ?_
  refine vx_ret ?_
  refine W.aret (v := am_cv o (.inr (.inr q))) hx hb (hr.trans hrt) (Or.inl ⟨C, rfl⟩) ?_ (fun t ht hW => ⟨⟨_, rfl, rfl⟩, by rw [ht]; exact hP, am_SF hS ht, by rw [ht]; exact hz⟩) hS.2.2 hd hlocks
  show va_rf (am_rf o q.1 q.2) = .null ∨ ∃ a, va_rf (am_rf o q.1 q.2) = .ref a
  cases am_rf o q.1 q.2 with
  | none => exact Or.inl rfl
  | some a => exact Or.inr ⟨a, rfl⟩
theorem ok_rv (hX : am_X p l R s m args meth c D cy o cc nL own rt) {pc : Nat} (hd : decode cc pc = .ok (.return_, 1)) (hrt : rt = none) : am_OK p l e R s m args below meth c D cy o nL pc (im_rv) := by
  obtain ⟨hx, hb, hml, hr, hlocks, htab, hown, hts, hK, hxt, hZ, hl0, hRc, hRs⟩ := id hX
  intro L st g k res h hk H locs ls hP hS hl
  dsimp only [im_rv] at h
  rcases st with _ | ⟨x, r⟩ <;> try (cases h; done)
  cases h
  refine am_sz (fun hz => ?_)
  refine W.widen (k := 1) (n := 6) (Nat.zero_le _) (Nat.zero_le _) ?_
  refine vx_ret ?_
  exact W.vret hx hb (hr.trans hrt) (fun t ht hW => ⟨⟨_, rfl, rfl⟩, by rw [ht]; exact hP, am_SF hS ht, by rw [ht]; exact hz⟩) hS.2.2 hd hlocks
theorem ok_le (hX : am_X p l R s m args meth c D cy o cc nL own rt) {pc : Nat} (hd : decode cc pc = .ok (.arraylength, 1)) : am_OK p l e R s m args below meth c D cy o nL pc (im_le) := by
  obtain ⟨hx, hb, hml, hr, hlocks, htab, hown, hts, hK, hxt, hZ, hl0, hRc, hRs⟩ := id hX
  intro L st g k res h hk H locs ls hP hS hl
  dsimp only [im_le] at h
  rcases st with _ | ⟨x | x | q, r⟩ <;> try (cases h; done)
  dsimp only at h
  obtain ⟨h1, h⟩ := am_g_some h
  rw [Bool.and_eq_true] at h1
  have k1 := Nat.le_of_ble_eq_true h1.1
  have k6 := Nat.le_of_ble_eq_true h1.2
  obtain ⟨n0, hn0⟩ : ∃ n0, am_ak q.1 = n0 + 1 := ⟨am_ak q.1 - 1, by omega⟩
  have hf := am_ak_lt (f := q.1) rfl (by omega)
  obtain ⟨h, hi, hrf⟩ := am_gr_some (o := o) h
  show W p l e R s m args below meth c H locs 0 0 _ (F0 m pc ls (am_cv o (.inr (.inr q)) :: r.map (am_cv o)))
  rw [show am_cv o (.inr (.inr q)) = .ref (o + am_ad q.1 (am_ix q.1 q.2)) from am_cv_ref hrf]
  have he := am_wl_get (o := o) (cy := cy) (g := g) hf hi
  rw [am_ce_arr hn0] at he
  have h2 := hk _ h H locs ls hP hS hl
  have hay : ∀ f, f < 46 → am_ay f < 5 := by decide
  have ht : ∀ n, n < 5 → ∃ ty, (am_ty cy)[n]? = some (cy n, ty) := fun n hn => by
    have : n = 0 ∨ n = 1 ∨ n = 2 ∨ n = 3 ∨ n = 4 := by omega
    rcases this with rfl | rfl | rfl | rfl | rfl <;> exact ⟨_, rfl⟩
  obtain ⟨ty, hty⟩ := ht _ (hay q.1 hf)
  exact va_alen hx hb hK hP _ _ he hty rfl hd h2
theorem am_ws_eq {o : Nat} : ∀ st : List am_v, ((st.map (am_cv o)).map fun v => v.category).sum = am_ws st := by
  intro st
  induction st with
  | nil => rfl
  | cons a r ih =>
    rw [List.map_cons, List.map_cons, List.sum_cons, ih]
    rcases a with x | x | q
    · rfl
    · rfl
    · have := am_cat o (am_c1r q)
      rw [this]
      rfl
/-- what holds of a callee: its contract, its words, its room -/
def am_Ce (l : Launch) (R : Room) (own : String) (idx : Nat) (y : MethodName) (bytes : ByteArray) (maxL : Nat) (ret : Option FieldType) (rm : Room) (n : Nat) (F : am_C) : Prop :=
  am_Ct l y bytes maxL ret rm F ∧ Cond.methodLink own idx y ∈ am_TB ∧ Cond.code y bytes maxL ret ∈ am_TB ∧ Cond.initialized y.cls ∈ am_TB ∧ (y.cls ≠ "java/lang/invoke/MethodHandle" ∧ y.cls ≠ "java/lang/invoke/VarHandle") ∧ (parseMethodDescriptor y.desc).map (fun d => d.parameters.length) = some n ∧
  (rm.cells = 1 ∧ rm.slots = 6 ∧ rm.frames + 1 ≤ R.frames ∧ 8 + (maxL + 11) + rm.locals ≤ R.locals)
theorem am_callB {idx n maxL : Nat} {y : MethodName} {bytes : ByteArray} {ret : Option FieldType} {rm : Room} {F : am_C} (hts : ∀ w ∈ am_TB, w.before args s = true) (h : am_Ce l R own idx y bytes maxL ret rm n F) :
    CallB R s args own idx y bytes maxL ret (Cond.code y bytes maxL ret :: am_TB) rm 1 6 n := by
  obtain ⟨-, h1, h2, h3, h4, h5, h6, h7, h8, h9⟩ := h
  refine ⟨h6, h7, h8, h9, fun w hw a' U hW => ?_, List.mem_cons_self, hts _ h2, hts _ h3, h4, fun sig hs => ?_, hts _ h1⟩
  · rcases List.mem_cons.mp hw with rfl | hw
    · exact am_tb_warm hts _ h2 a' U hW
    · exact am_tb_warm hts _ hw a' U hW
  · rw [hs] at h5
    exact (Option.some.inj h5).symm
theorem am_blind {as : List am_v} {g : am_S} : FrameBlind (am_Pc D cy o as g) := by
  intro a U gg mk hp
  obtain ⟨h0, h1, h2, h3, h4⟩ := hp
  exact ⟨h0, va_K.moved (u := U) (U := U.calling gg mk a) (Vm.Alike.refl U.vm) h1, am_xt.same (u := U) (U := U.calling gg mk a) rfl h2, ⟨vx_Zq.moved (u := U) (U := U.calling gg mk a) (Vm.Alike.refl U.vm) h3.1, vx_Zq.moved (u := U) (U := U.calling gg mk a) (Vm.Alike.refl U.vm) h3.2⟩, h4⟩
theorem am_pre {H : Heap} {locs : List Loc} {as : List am_v} {g : am_S} (hX : am_X p l R s m args meth c D cy o cc nL own rt) (hP : va_P D vwCl (am_wl o cy g) H) (hS : va_S (am_A o) s.heap H locs) {U : State} (hU : U.heap = H) (hW : s.WarmedH U.vm) : am_Pc D cy o as g (as.map (am_cv o)).toArray U := by
  obtain ⟨hx, hb, hml, hr, hlocks, htab, hown, hts, hK, hxt, hZ, hl0, hRc, hRs⟩ := hX
  refine ⟨rfl, va_K.moved hW.alike hK, hxt.warm hW, ?_, by rw [hU]; exact hP⟩
  rw [hU]
  exact ⟨vx_Zq.moved hW.alike (hZ.1.kept hS.2.1), vx_Zq.moved hW.alike (hZ.2.kept hS.2.1)⟩
theorem am_S2 {H : Heap} {locs L' : List Loc} {st₀ t : State} (hS : va_S (am_A o) s.heap H locs) (h0 : st₀.heap = H) (hF : va_F (am_A o) st₀ t) (hL : ∀ q ∈ L', am_A o q.base) : va_S (am_A o) s.heap t.heap (locs ++ L') := by
  refine ⟨Nat.le_trans hS.1 (by rw [← h0]; exact hF.1), fun q h1 h2 => ?_, fun q hq => ?_⟩
  · rw [hF.2 q (by rw [h0]; exact Nat.lt_of_lt_of_le h1 hS.1) h2, h0]
    exact hS.2.1 q h1 h2
  · rcases List.mem_append.mp hq with z | z
    · exact hS.2.2 q z
    · exact hL q z
/-- behind a call: what the callee's run says, the caller goes on from -/
theorem am_after (hX : am_X p l R s m args meth c D cy o cc nL own rt) {pc : Nat} {L : List (Option am_v)} {H : Heap} {locs : List Loc} {ls : Array Slot} {r : List am_v} {st0 : List Value} {rr : am_O} {g' : am_S} {res : am_O × am_S} {a : Array Value}
    (hS : va_S (am_A o) s.heap H locs) (hl : lv_has ls nL (am_ll o 0 L))
    (hrun : vx_Run p l e R s m args below meth c H locs 0 0 1 6 (F0 m pc ls st0) (r.map (am_cv o)) (am_Qc D cy o rr g' a) (am_Xc D cy o rr g') (am_A o))
    (hv : ∀ v, rr = .inl v → am_G p l e R s m args below meth c D cy o nL res (pc + 3, L, v.toList ++ r, g'))
    (ht : ∀ n, rr = .inr n → res = (.inr n, g')) :
    W p l e R s m args below meth c H locs 0 0 (vx_MQ below (am_Qc D cy o res.1 res.2) (am_Xc D cy o res.1 res.2) args s 1 6 (am_A o)) (F0 m pc ls st0) := by
  obtain ⟨hx, hb, hml, hr, hlocks, htab, hown, hts, hK, hxt, hZ, hl0, hRc, hRs⟩ := id hX
  refine am_sz (fun hz => ?_)
  intro T hT X
  rcases hrun T hT X with ⟨v, st₀, t, T', L', h0, X', hL, e1, e2, hq, st⟩ | ⟨q, st₀, t, T', L', E, ce, h0, X', hL, e1, e2, hxc, hce, hcv, hcl, st⟩
  · obtain ⟨⟨w, hw, hv2⟩, hP2, hF2, hsz⟩ := hq
    cases hv2
    have hsz2 : T'.heap.size = s.heap.size := by rw [e1, hsz, h0, hz]
    have X2 := am_tight X' hsz2
    obtain ⟨t2, a1, b1⟩ := hv w hw t.heap (locs ++ L') ls hP2 (am_S2 hS h0 hF2 hL) hl T' e1 X2
    refine ⟨t2, st t2 ?_, b1⟩
    have es : (w.toList ++ r).map (am_cv o) = (w.map (am_cv o)).toList ++ r.map (am_cv o) := by cases w <;> simp
    rw [show (pc + 3, L, w.toList ++ r, g').2.2.1 = w.toList ++ r from rfl, es] at a1
    exact a1
  · obtain ⟨⟨n, hn, hE⟩, hP2, hF2⟩ := hxc
    have hres := ht n hn
    subst hres
    have hS2 := am_S2 hS h0 hF2 hL
    have ho : vx_W p l e R s m args below meth c t.heap (locs ++ L') (0 + 1) (0 + 6) (vx_MQ below (am_Qc D cy o (.inr n) g') (am_Xc D cy o (.inr n) g') args s 1 6 (am_A o)) (F0 m pc ls (r.map (am_cv o))) q :=
      vx_out (E := E) (ce := ce) (fun x hx9 => (htab x hx9).elim) hlocks hce hcv hcl (fun u hu _ => ⟨⟨n, rfl, hE⟩, by rw [hu]; exact hP2, am_SF hS2 hu⟩) hS2.2.2 (Nat.le_refl _) (Nat.le_refl _)
    obtain ⟨t2, a1, b1⟩ := ho T' e1 X'
    exact ⟨t2, st.trans a1, b1⟩
theorem am_stk {o : Nat} {st : List am_v} {n : Nat} (h : (st.take n).length = n) : st.map (am_cv o) = (((st.take n).reverse).map (am_cv o)).reverse ++ (st.drop n).map (am_cv o) := by
  rw [List.map_reverse, List.reverse_reverse, ← List.map_append, List.take_append_drop]

theorem ok_vI (hX : am_X p l R s m args meth c D cy o cc nL own rt) {pc : Nat} {idx f n maxL N : Nat} {y : MethodName} {bytes : ByteArray} {ret : Option FieldType} {rm : Room} {F : am_C} {T : u_T} (hC : am_Ce l R own idx y bytes maxL ret rm n F) (hd : decode cc pc = .ok (.invokevirtual idx, 3)) (hin : Cond.instanceMethod y ∈ am_TB) (hse : Cond.selects y.cls y y ∈ am_TB) (hf : f < 46) (hak : am_ak f = 0) (hcl : vwCl[am_cl f]? = some (y.cls, T, N)) : am_OK p l e R s m args below meth c D cy o nL pc (im_vI f n F) := by
  obtain ⟨hx, hb, hml, hr, hlocks, htab, hown, hts, hK, hxt, hZ, hl0, hRc, hRs⟩ := id hX
  intro L st g k res h hk H locs ls hP hS hl
  dsimp only [im_vI] at h
  rcases hdr : st.drop n with _ | ⟨x | x | q, r⟩ <;> rw [hdr] at h <;> try (cases h; done)
  dsimp only at h
  obtain ⟨h1, h⟩ := am_g_some h
  rw [Bool.and_eq_true, Bool.and_eq_true] at h1
  have eq0 := Nat.eq_of_beq_eq_true h1.1
  have hws : am_ws r ≤ 8 := Nat.le_of_ble_eq_true h1.2.1
  have hlen := Nat.eq_of_beq_eq_true h1.2.2
  obtain ⟨h, hi, hrf⟩ := am_gr_some (o := o) h
  have ecv : am_cv o (.inr (.inr (f, q.2))) = .ref (o + am_ad f (am_ix f q.2)) := am_cv_ref hrf
  have he := am_wl_get (o := o) (cy := cy) (g := g) hf hi
  rw [am_ce_obj hak] at he
  have hstk : st.map (am_cv o) = (((st.take n).reverse).map (am_cv o)).reverse ++ .ref (o + am_ad f (am_ix f q.2)) :: r.map (am_cv o) := by
    rw [am_stk hlen, hdr, List.map_cons, ← ecv, ← eq0]
  have hrun : ∀ (rr : am_O) (g' : am_S), F (.inr (.inr (f, q.2)) :: (st.take n).reverse) g = some (rr, g') → vx_Run p l e R s m args below meth c H locs 0 0 1 6 (F0 m pc ls (st.map (am_cv o))) (r.map (am_cv o)) (am_Qc D cy o rr g' (Value.ref (o + am_ad f (am_ix f q.2)) :: ((st.take n).reverse).map (am_cv o)).toArray) (am_Xc D cy o rr g') (am_A o) := fun rr g' hF =>
    vx_runV (As := ((st.take n).reverse).map (am_cv o)) (C := y.cls) ⟨hx, hb, hml, hown, hts⟩ (hC.1 D cy o _ g g' rr hF) ⟨am_callB hts hC, hts _ hin, hts _ hse⟩
      ⟨am_blind, va_recv hK hP hcl he, fun U hU hW => by rw [← ecv, ← List.map_cons]; exact am_pre hX hP hS hU hW⟩ rfl (by rw [List.length_map, List.length_reverse]; exact hlen) hl.1 hstk (lv_room (by rw [am_ws_eq]; exact hws)) hd ⟨by omega, by omega⟩
  rcases hF : F (.inr (.inr (f, q.2)) :: (st.take n).reverse) g with _ | ⟨(_ | v) | e9, g'⟩ <;> rw [hF] at h <;> try (cases h; done)
  · rcases v with x | x | z <;> try (cases h; done)
    refine am_after hX hS hl (hrun _ _ hF) (fun v hv => ?_) (fun n9 hn => by cases hn)
    cases hv
    exact hk _ h
  · cases h
    exact am_after hX hS hl (hrun _ _ hF) (fun v hv => by cases hv) (fun n9 hn => by cases hn; rfl)
theorem ok_vV (hX : am_X p l R s m args meth c D cy o cc nL own rt) {pc : Nat} {idx f n maxL N : Nat} {y : MethodName} {bytes : ByteArray} {ret : Option FieldType} {rm : Room} {F : am_C} {T : u_T} (hC : am_Ce l R own idx y bytes maxL ret rm n F) (hd : decode cc pc = .ok (.invokevirtual idx, 3)) (hin : Cond.instanceMethod y ∈ am_TB) (hse : Cond.selects y.cls y y ∈ am_TB) (hf : f < 46) (hak : am_ak f = 0) (hcl : vwCl[am_cl f]? = some (y.cls, T, N)) : am_OK p l e R s m args below meth c D cy o nL pc (im_vV f n F) := by
  obtain ⟨hx, hb, hml, hr, hlocks, htab, hown, hts, hK, hxt, hZ, hl0, hRc, hRs⟩ := id hX
  intro L st g k res h hk H locs ls hP hS hl
  dsimp only [im_vV] at h
  rcases hdr : st.drop n with _ | ⟨x | x | q, r⟩ <;> rw [hdr] at h <;> try (cases h; done)
  dsimp only at h
  obtain ⟨h1, h⟩ := am_g_some h
  rw [Bool.and_eq_true, Bool.and_eq_true] at h1
  have eq0 := Nat.eq_of_beq_eq_true h1.1
  have hws : am_ws r ≤ 8 := Nat.le_of_ble_eq_true h1.2.1
  have hlen := Nat.eq_of_beq_eq_true h1.2.2
  obtain ⟨h, hi, hrf⟩ := am_gr_some (o := o) h
  have ecv : am_cv o (.inr (.inr (f, q.2))) = .ref (o + am_ad f (am_ix f q.2)) := am_cv_ref hrf
  have he := am_wl_get (o := o) (cy := cy) (g := g) hf hi
  rw [am_ce_obj hak] at he
  have hstk : st.map (am_cv o) = (((st.take n).reverse).map (am_cv o)).reverse ++ .ref (o + am_ad f (am_ix f q.2)) :: r.map (am_cv o) := by
    rw [am_stk hlen, hdr, List.map_cons, ← ecv, ← eq0]
  have hrun : ∀ (rr : am_O) (g' : am_S), F (.inr (.inr (f, q.2)) :: (st.take n).reverse) g = some (rr, g') → vx_Run p l e R s m args below meth c H locs 0 0 1 6 (F0 m pc ls (st.map (am_cv o))) (r.map (am_cv o)) (am_Qc D cy o rr g' (Value.ref (o + am_ad f (am_ix f q.2)) :: ((st.take n).reverse).map (am_cv o)).toArray) (am_Xc D cy o rr g') (am_A o) := fun rr g' hF =>
    vx_runV (As := ((st.take n).reverse).map (am_cv o)) (C := y.cls) ⟨hx, hb, hml, hown, hts⟩ (hC.1 D cy o _ g g' rr hF) ⟨am_callB hts hC, hts _ hin, hts _ hse⟩
      ⟨am_blind, va_recv hK hP hcl he, fun U hU hW => by rw [← ecv, ← List.map_cons]; exact am_pre hX hP hS hU hW⟩ rfl (by rw [List.length_map, List.length_reverse]; exact hlen) hl.1 hstk (lv_room (by rw [am_ws_eq]; exact hws)) hd ⟨by omega, by omega⟩
  rcases hF : F (.inr (.inr (f, q.2)) :: (st.take n).reverse) g with _ | ⟨(_ | v) | e9, g'⟩ <;> rw [hF] at h <;> try (cases h; done)
  · refine am_after hX hS hl (hrun _ _ hF) (fun v hv => ?_) (fun n9 hn => by cases hn)
    cases hv
    exact hk _ h
  · cases h
    exact am_after hX hS hl (hrun _ _ hF) (fun v hv => by cases hv) (fun n9 hn => by cases hn; rfl)
theorem ok_vA (hX : am_X p l R s m args meth c D cy o cc nL own rt) {pc : Nat} {h0 : Nat} {idx f n maxL N : Nat} {y : MethodName} {bytes : ByteArray} {ret : Option FieldType} {rm : Room} {F : am_C} {T : u_T} (hC : am_Ce l R own idx y bytes maxL ret rm n F) (hd : decode cc pc = .ok (.invokevirtual idx, 3)) (hin : Cond.instanceMethod y ∈ am_TB) (hse : Cond.selects y.cls y y ∈ am_TB) (hf : f < 46) (hak : am_ak f = 0) (hcl : vwCl[am_cl f]? = some (y.cls, T, N)) : am_OK p l e R s m args below meth c D cy o nL pc (im_vA h0 f n F) := by
  obtain ⟨hx, hb, hml, hr, hlocks, htab, hown, hts, hK, hxt, hZ, hl0, hRc, hRs⟩ := id hX
  intro L st g k res h hk H locs ls hP hS hl
  dsimp only [im_vA] at h
  rcases hdr : st.drop n with _ | ⟨x | x | q, r⟩ <;> rw [hdr] at h <;> try (cases h; done)
  dsimp only at h
  obtain ⟨h1, h⟩ := am_g_some h
  rw [Bool.and_eq_true, Bool.and_eq_true] at h1
  have eq0 := Nat.eq_of_beq_eq_true h1.1
  have hws : am_ws r ≤ 8 := Nat.le_of_ble_eq_true h1.2.1
  have hlen := Nat.eq_of_beq_eq_true h1.2.2
  obtain ⟨h, hi, hrf⟩ := am_gr_some (o := o) h
  have ecv : am_cv o (.inr (.inr (f, q.2))) = .ref (o + am_ad f (am_ix f q.2)) := am_cv_ref hrf
  have he := am_wl_get (o := o) (cy := cy) (g := g) hf hi
  rw [am_ce_obj hak] at he
  have hstk : st.map (am_cv o) = (((st.take n).reverse).map (am_cv o)).reverse ++ .ref (o + am_ad f (am_ix f q.2)) :: r.map (am_cv o) := by
    rw [am_stk hlen, hdr, List.map_cons, ← ecv, ← eq0]
  have hrun : ∀ (rr : am_O) (g' : am_S), F (.inr (.inr (f, q.2)) :: (st.take n).reverse) g = some (rr, g') → vx_Run p l e R s m args below meth c H locs 0 0 1 6 (F0 m pc ls (st.map (am_cv o))) (r.map (am_cv o)) (am_Qc D cy o rr g' (Value.ref (o + am_ad f (am_ix f q.2)) :: ((st.take n).reverse).map (am_cv o)).toArray) (am_Xc D cy o rr g') (am_A o) := fun rr g' hF =>
    vx_runV (As := ((st.take n).reverse).map (am_cv o)) (C := y.cls) ⟨hx, hb, hml, hown, hts⟩ (hC.1 D cy o _ g g' rr hF) ⟨am_callB hts hC, hts _ hin, hts _ hse⟩
      ⟨am_blind, va_recv hK hP hcl he, fun U hU hW => by rw [← ecv, ← List.map_cons]; exact am_pre hX hP hS hU hW⟩ rfl (by rw [List.length_map, List.length_reverse]; exact hlen) hl.1 hstk (lv_room (by rw [am_ws_eq]; exact hws)) hd ⟨by omega, by omega⟩
  rcases hF : F (.inr (.inr (f, q.2)) :: (st.take n).reverse) g with _ | ⟨(_ | v) | e9, g'⟩ <;> rw [hF] at h <;> try (cases h; done)
  · rcases v with x | x | z <;> try (cases h; done)
    obtain ⟨z1, z2⟩ := z
    dsimp only [am_bA] at h
    obtain ⟨h9, h⟩ := am_g_some h
    have e9 := Nat.eq_of_beq_eq_true h9
    subst e9
    refine am_after hX hS hl (hrun _ _ hF) (fun v hv => ?_) (fun n9 hn => by cases hn)
    cases hv
    exact hk _ h
  · cases h
    exact am_after hX hS hl (hrun _ _ hF) (fun v hv => by cases hv) (fun n9 hn => by cases hn; rfl)
theorem ok_sI (hX : am_X p l R s m args meth c D cy o cc nL own rt) {pc : Nat} {idx n maxL : Nat} {y : MethodName} {bytes : ByteArray} {ret : Option FieldType} {rm : Room} {F : am_C} (hC : am_Ce l R own idx y bytes maxL ret rm n F) (hd : decode cc pc = .ok (.invokestatic idx, 3)) (hst : Cond.static y ∈ am_TB) : am_OK p l e R s m args below meth c D cy o nL pc (im_sI n F) := by
  obtain ⟨hx, hb, hml, hr, hlocks, htab, hown, hts, hK, hxt, hZ, hl0, hRc, hRs⟩ := id hX
  intro L st g k res h hk H locs ls hP hS hl
  dsimp only [im_sI] at h
  obtain ⟨h1, h⟩ := am_g_some h
  rw [Bool.and_eq_true] at h1
  have hws : am_ws (st.drop n) ≤ 8 := Nat.le_of_ble_eq_true h1.1
  have hlen := Nat.eq_of_beq_eq_true h1.2
  have hrun : ∀ (rr : am_O) (g' : am_S), F (st.take n).reverse g = some (rr, g') → vx_Run p l e R s m args below meth c H locs 0 0 1 6 (F0 m pc ls (st.map (am_cv o))) ((st.drop n).map (am_cv o)) (am_Qc D cy o rr g' (((st.take n).reverse).map (am_cv o)).toArray) (am_Xc D cy o rr g') (am_A o) := fun rr g' hF =>
    vx_runS (As := ((st.take n).reverse).map (am_cv o)) ⟨hx, hb, hml, hown, hts⟩ (hC.1 D cy o _ g g' rr hF) ⟨am_callB hts hC, hts _ hst⟩
      ⟨am_blind, fun U hU hW => am_pre hX hP hS hU hW⟩ rfl (by rw [List.length_map, List.length_reverse]; exact hlen) hl.1 (am_stk hlen) (lv_room (by rw [am_ws_eq]; exact hws)) hd ⟨by omega, by omega⟩
  rcases hF : F (st.take n).reverse g with _ | ⟨(_ | v) | e9, g'⟩ <;> rw [hF] at h <;> try (cases h; done)
  · rcases v with x | x | z <;> try (cases h; done)
    refine am_after hX hS hl (hrun _ _ hF) (fun v hv => ?_) (fun n9 hn => by cases hn)
    cases hv
    exact hk _ h
  · cases h
    exact am_after hX hS hl (hrun _ _ hF) (fun v hv => by cases hv) (fun n9 hn => by cases hn; rfl)
/-- the words of a throw -/
def am_Tw (ik ic n : Nat) : Prop := Cond.classLink "SheetKernel" ik (am_en n) ∈ am_TB ∧ Cond.initialized (am_en n) ∈ am_TB ∧ am_en n ∈ am_exC ∧
  (∀ w ∈ (vx_atS "SheetKernel" ic (am_en n) ["java/lang/RuntimeException", "java/lang/Exception"]).filter goodWord, w ∈ am_TB) ∧
  (∀ w ∈ (vx_atS "SheetKernel" ic (am_en n) ["java/lang/RuntimeException", "java/lang/Exception"]).filter (fun w => !goodWord w), w ∈ [Cond.castable (am_en n) (am_en n), .declares ⟨"java/lang/RuntimeException", "<init>", "(Ljava/lang/String;)V"⟩, .declares ⟨"java/lang/Exception", "<init>", "(Ljava/lang/String;)V"⟩, .declares ⟨"java/lang/Throwable", "<init>", "(Ljava/lang/String;)V"⟩]) ∧
  (∀ w ∈ Cond.classLink "SheetKernel" ik (am_en n) :: Cond.initialized (am_en n) :: vx_atS "SheetKernel" ic (am_en n) ["java/lang/RuntimeException", "java/lang/Exception"], vx_ot w = true) ∧ Bundle.fit (am_en n) = true
theorem am_tw_at {ik ic n : Nat} (hw : am_Tw ik ic n) (hts : ∀ w ∈ am_TB, w.before args s = true) (hxt : am_xt s) : ∀ w ∈ vx_atS "SheetKernel" ic (am_en n) ["java/lang/RuntimeException", "java/lang/Exception"], w.before args s = true := by
  obtain ⟨h1, h2, h3, h4, h5, h6, h7⟩ := hw
  refine vx_hat (fun w hw => hts w (h4 w hw)) h5 ?_
  exact vx_c ((hxt.1 _ h3).use rfl) (vx_c ((hxt.2.1 _ (by decide)).use rfl) (vx_c ((hxt.2.1 _ (by decide)).use rfl) (vx_c ((hxt.2.1 _ (by decide)).use rfl) vx_n)))
theorem ok_thS (hX : am_X p l R s m args meth c D cy o cc nL own rt) {pc : Nat} {ik is ic n : Nat} {text : String} (hown0 : own = "SheetKernel") (hw : am_Tw ik ic n) (hst : (is, text) ∈ am_sts) (d0 : decode cc pc = .ok (.new ik, 3)) (d3 : decode cc (pc + 3) = .ok (.dup, 1)) (d4 : decode cc (pc + 4) = .ok (.ldc is, 2)) (d6 : decode cc (pc + 6) = .ok (.invokespecial ic, 3)) (d9 : decode cc (pc + 9) = .ok (.athrow, 1)) (hR : 5 < R.frames ∧ 90 ≤ R.locals) : am_OK p l e R s m args below meth c D cy o nL pc (im_th n) := by
  obtain ⟨hx, hb, hml, hr, hlocks, htab, hown, hts, hK, hxt, hZ, hl0, hRc, hRs⟩ := id hX
  intro L st g k res h hk H locs ls hP hS hl
  dsimp only [im_th] at h
  cases hws : Nat.ble (am_ws st) 8 with
  | false => rw [hws] at h; cases h
  | true =>
    rw [hws] at h
    cases h
    subst hown0
    have h8 : am_ws st ≤ 8 := Nat.le_of_ble_eq_true hws
    obtain ⟨sa, hsa⟩ := hxt.2.2 _ hst
    exact vx_throwS hx hb hl0 hown hw.2.2.2.2.2.2 (by decide) (hts _ hw.1) (hts _ hw.2.1) hsa (am_tw_at hw hts hxt) hw.2.2.2.2.2.1 hZ.1 hZ.2 hS (hl.1.trans hml.symm) d0 d3 d4 d6 d9 (fun x z => (htab x z).elim) hR.1 (by show ((st.map (am_cv o)).map fun v => v.category).sum + (13 * 3 + 43) ≤ _; rw [am_ws_eq]; omega) (by omega) (by omega) hlocks
      (fun t ht h1 h2 => ⟨⟨n, rfl, rfl⟩, hP.kept (fun k9 q hq => h2 q.1 (vx_lt hP hq)), Nat.le_trans hS.1 h1, fun q a1 a2 => by rw [h2 q (Nat.lt_of_lt_of_le a1 hS.1)]; exact hS.2.1 q a1 a2⟩) hS.2.2 (Nat.le_refl _) (Nat.le_refl _)
theorem ok_thW (hX : am_X p l R s m args meth c D cy o cc nL own rt) {pc : Nat} {ik is ic n : Nat} {text : String} (hown0 : own = "SheetKernel") (hw : am_Tw ik ic n) (hst : (is, text) ∈ am_sts) (d0 : decode cc pc = .ok (.new ik, 3)) (d3 : decode cc (pc + 3) = .ok (.dup, 1)) (d4 : decode cc (pc + 4) = .ok (.ldc_w is, 3)) (d6 : decode cc (pc + 7) = .ok (.invokespecial ic, 3)) (d9 : decode cc (pc + 10) = .ok (.athrow, 1)) (hR : 5 < R.frames ∧ 90 ≤ R.locals) : am_OK p l e R s m args below meth c D cy o nL pc (im_th n) := by
  obtain ⟨hx, hb, hml, hr, hlocks, htab, hown, hts, hK, hxt, hZ, hl0, hRc, hRs⟩ := id hX
  intro L st g k res h hk H locs ls hP hS hl
  dsimp only [im_th] at h
  cases hws : Nat.ble (am_ws st) 8 with
  | false => rw [hws] at h; cases h
  | true =>
    rw [hws] at h
    cases h
    subst hown0
    have h8 : am_ws st ≤ 8 := Nat.le_of_ble_eq_true hws
    obtain ⟨sa, hsa⟩ := hxt.2.2 _ hst
    exact vx_throwSW hx hb hl0 hown hw.2.2.2.2.2.2 (by decide) (hts _ hw.1) (hts _ hw.2.1) hsa (am_tw_at hw hts hxt) hw.2.2.2.2.2.1 hZ.1 hZ.2 hS (hl.1.trans hml.symm) d0 d3 d4 d6 d9 (fun x z => (htab x z).elim) hR.1 (by show ((st.map (am_cv o)).map fun v => v.category).sum + (13 * 3 + 43) ≤ _; rw [am_ws_eq]; omega) (by omega) (by omega) hlocks
      (fun t ht h1 h2 => ⟨⟨n, rfl, rfl⟩, hP.kept (fun k9 q hq => h2 q.1 (vx_lt hP hq)), Nat.le_trans hS.1 h1, fun q a1 a2 => by rw [h2 q (Nat.lt_of_lt_of_le a1 hS.1)]; exact hS.2.1 q a1 a2⟩) hS.2.2 (Nat.le_refl _) (Nat.le_refl _)
noncomputable def am_M (T : List (Nat × am_I)) (nL : Nat) : am_C := fun as g => am_g (Nat.ble (am_ws as) nL && Nat.beq (am_ws as) as.length) (am_E T (0, as.map some ++ List.replicate (nL - as.length) none, [], g))
theorem am_rep {o : Nat} : ∀ (n i : Nat), am_ll o i (List.replicate n none) = [] := by
  intro n
  induction n with
  | zero => intro i; rfl
  | succ n ih => intro i; exact ih (i + 1)
theorem am_ll_args {o : Nat} (t : List (Option am_v)) (ht : ∀ i, am_ll o i t = []) : ∀ (as : List am_v) (i : Nat), am_ws as = as.length → am_ll o i (as.map some ++ t) = lv_args i (as.map (am_cv o)) := by
  intro as
  induction as with
  | nil => intro i _; exact (ht i).trans (by simp [lv_args])
  | cons a r ih =>
    intro i h
    have hr : am_ws r ≥ r.length := by
      clear ih h
      induction r with
      | nil => exact Nat.le_refl _
      | cons b r ih =>
        rcases b with x | x | q <;> simp only [am_ws, List.length_cons] <;> omega
    rcases a with x | x | q
    · have h1 : am_ws r = r.length := by simp only [am_ws, List.length_cons] at h; omega
      show (i, am_cv o (.inl x)) :: am_ll o (i + 1) (r.map some ++ t) = _
      rw [ih (i + 1) h1]
      simp [lv_args, am_cv, Value.category]
    · simp only [am_ws, List.length_cons] at h
      omega
    · have h1 : am_ws r = r.length := by simp only [am_ws, List.length_cons] at h; omega
      show (i, am_cv o (.inr (.inr q))) :: am_ll o (i + 1) (r.map some ++ t) = _
      rw [ih (i + 1) h1, List.map_cons]
      have hc := am_cat o (am_c1r q)
      simp [lv_args, hc]
theorem am_sl_len {o : Nat} : ∀ as : List am_v, (lg_sl (as.map (am_cv o))).length = am_ws as := by
  intro as
  induction as with
  | nil => rfl
  | cons a r ih =>
    have e9 : lg_sl ((a :: r).map (am_cv o)) = (if (am_cv o a).category = 2 then [.val (am_cv o a), .second] else [.val (am_cv o a)]) ++ lg_sl (r.map (am_cv o)) := by simp [lg_sl]
    rw [e9, List.length_append, ih]
    rcases a with x | x | q
    · rfl
    · rfl
    · rw [am_cat o (am_c1r q)]
      rfl
theorem am_met {l : Launch} {T : List (Nat × am_I)} {y : MethodName} {bytes : ByteArray} {maxL : Nat} {ret : Option FieldType} {rm : Room} (hl : l.stackTraces = false) (hy : plainName y.cls = true) (hrm : rm.cells = 1 ∧ rm.slots = 6)
    (hT : ∀ (p : Program) (e : Env) (s : State) (m : MethodId) (args : Array Value) (below : List Frame) (meth : Method) (c : Code) (D : va_G) (cy : Nat → ClassId) (o : Nat), am_X p l rm s m args meth c D cy o bytes maxL y.cls ret → ∀ q ∈ T, am_OK p l e rm s m args below meth c D cy o maxL q.1 q.2) :
    am_Ct l y bytes maxL ret rm (am_M T maxL) := by
  intro D cy o as g g' r hF
  obtain ⟨hg, hF⟩ := am_g_some hF
  rw [Bool.and_eq_true] at hg
  have h1 : am_ws as ≤ maxL := Nat.le_of_ble_eq_true hg.1
  have h2 := Nat.eq_of_beq_eq_true hg.2
  obtain ⟨n, hn⟩ := am_E_run hF
  refine vx_ofW (cc := bytes) (maxL := maxL) (ret := ret) hy rfl ?_
  intro p e s m args below meth c s₁ B hml htab hv
  obtain ⟨rfl, hK, hxt, hZ, hP⟩ := hv
  have hts := atoms_spec (ws := Cond.code y bytes maxL ret :: am_TB) B.pre
  have hX : am_X p l rm s m (as.map (am_cv o)).toArray meth c D cy o bytes maxL y.cls ret := ⟨B.exec, B.bytes, hml, B.returns, B.notSynchronized, htab, findClass_of_methodNamed B.named, fun w hw => hts w (List.mem_cons_of_mem _ hw), hK, hxt, hZ, hl, hrm.1, hrm.2⟩
  have hG := am_sound (hT p e s m _ below meth c D cy o hX) n _ _ hn
  have hl9 := lv_entry (as.map (am_cv o)) (n := maxL) (by rw [am_sl_len]; exact h1)
  rw [lg_entry_eq]
  refine hG s.heap [] _ hP va_S.rf ?_
  have e1 : am_ll o 0 (as.map some ++ List.replicate (maxL - as.length) none) = lv_args 0 (as.map (am_cv o)) := am_ll_args _ (fun i => am_rep _ i) as 0 h2
  show lv_has _ maxL (am_ll o 0 (as.map some ++ List.replicate (maxL - as.length) none))
  rw [e1]
  exact hl9
end AMC
