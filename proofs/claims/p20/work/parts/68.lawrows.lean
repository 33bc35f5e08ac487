/-! rows for the law's body -/
section LAR
variable {p : Program} {l : Launch} {e : Env} {R : Room} {s : State} {m : MethodId} {args : Array Value} {below : List Frame} {meth : Method} {c : Code} {H : Heap} {locs : List Loc} {cells slots : Nat} {Q : State → Prop}
variable {D : va_G} {cy : Nat → ClassId} {o : Nat} {cc : ByteArray} {nL : Nat} {own : String} {pc : Nat} {ls : Array Slot} {rest : List Value} {g : am_S}
/-- an int of the script -/
theorem la_sc {b L i j p0 p4 : Nat} {xs : Nat → Int32} {nn : Int} {lv : List (Nat × Value)} (hX : la_X p s m args c D cy o cc nL own) (hXs : va_X b L xs s s.heap) (hbl : b < s.heap.size) (hbA : ¬ am_A o b) (hS : va_S (am_A o) s.heap H locs) (hl : lv_has ls nL lv) (k0 : lv[p0]? = some (0, .ref b)) (k4 : lv[p4]? = some (4, .int (nI i))) (hj : Int32.ofInt nn = nI j) (hL : L ≤ 384) (hi : i + j < L)
    (d0 : decode cc pc = .ok (.aload_n 0, 1)) (d1 : decode cc (pc + 1) = .ok (.iload 4, 2)) (d3 : decode cc (pc + 3) = .ok (.iconst nn, 1)) (d4 : decode cc (pc + 4) = .ok (.iadd, 1)) (d5 : decode cc (pc + 5) = .ok (.iaload, 1))
    (k : W p l e R s m args below meth c H locs cells slots Q (F0 m (pc + 6) ls (.int (xs (i + j)) :: rest))) : W p l e R s m args below meth c H locs cells slots Q (F0 m pc ls rest) := by
  obtain ⟨hx, hb, -⟩ := hX
  refine lv_aload_n hx hb d0 rfl (lv_at hl p0 k0) ?_
  refine lv_iload hx hb d1 (lv_at hl p4 k4) ?_
  refine lv_iconst (v := nI j) hx hb d3 hj ?_
  refine lv_iadd hx hb d4 ?_
  rw [nI_add]
  refine va_sld hx hb hXs hbl hbA hS (i := nI (i + j)) (am_in_iff.mp (pu_in hi (by omega))) d5 ?_
  rw [nI_clamp (by omega)]
  exact k
/-- a wrapper is called -/
theorem la_S1 {idx n maxL : Nat} {y : MethodName} {bytes : ByteArray} {hh : List (Nat × Nat × Nat × Nat)} {rm : Room} {as : List am_v} {v : Int32} {g1 : am_S} {st0 : List Value} (hX : la_X p s m args c D cy o cc nL own) (hnc : la_nc s) (hsz : ls.size = nL) (hC : la_Ct l y bytes maxL hh rm as g v g1)
    (hlk : Cond.methodLink own idx y ∈ am_TB) (hstt : Cond.static y ∈ am_TB) (hcw : Cond.codeWith y bytes maxL (some .int) hh ∈ am_TB) (hini : Cond.initialized y.cls ∈ am_TB) (hy : y.cls ≠ "java/lang/invoke/MethodHandle" ∧ y.cls ≠ "java/lang/invoke/VarHandle") (hds : (parseMethodDescriptor y.desc).map (fun d => d.parameters.length) = some n) (hrm : rm.cells = 1 ∧ rm.slots = 6 ∧ rm.frames + 1 ≤ R.frames ∧ 8 + (maxL + 11) + rm.locals ≤ R.locals)
    (hd : decode cc pc = .ok (.invokestatic idx, 3)) (hn : as.length = n) (hst : st0 = (as.map (am_cv o)).reverse ++ rest) (hrest : (rest.map fun v => v.category).sum ≤ 8) (hroom : cells + 1 ≤ R.cells ∧ slots + 6 ≤ R.slots) (hP : va_P D vwCl (am_wl o cy g) H) (hS : va_S (am_A o) s.heap H locs)
    (kv : ∀ (H1 : Heap) (locs1 : List Loc), va_P D vwCl (am_wl o cy g1) H1 → va_S (am_A o) s.heap H1 locs1 → W p l e R s m args below meth c H1 locs1 (cells + 1) (slots + 6) Q (F0 m (pc + 3) ls (.int v :: rest))) :
    W p l e R s m args below meth c H locs cells slots Q (F0 m pc ls st0) := by
  obtain ⟨hx, hb, hml, hown, hts, hK, hxt, hZ⟩ := id hX
  subst hst
  have hwarm := am_tb_warm hts
  have cw : vx_CSW R s args own idx y bytes maxL (some .int) hh (Cond.codeWith y bytes maxL (some .int) hh :: am_TB) rm 1 6 n := by
    refine ⟨⟨hrm.1, hrm.2.1, hrm.2.2.1, hrm.2.2.2, fun w hw a' U hW => ?_, List.mem_cons_self⟩, hts _ hcw, hts _ hini, hy, fun sig hs => ?_, hts _ hlk, hts _ hstt⟩
    · rcases List.mem_cons.mp hw with rfl | hw
      · exact hwarm _ hcw a' U hW
      · exact hwarm _ hw a' U hW
    · rw [hs] at hds
      exact (Option.some.inj hds).symm
  have hrun : vx_Run p l e R s m args below meth c H locs cells slots 1 6 (F0 m pc ls ((as.map (am_cv o)).reverse ++ rest)) rest (la_Qc D cy o v g1 (as.map (am_cv o)).toArray) (fun _ _ _ => False) (am_A o) :=
    vx_runSX (As := as.map (am_cv o)) ⟨hx, hb, hml, hown, hts⟩ (hC D cy o) cw
      ⟨la_blind, fun U hU hW => by
        obtain ⟨-, h1, h2, h3, h4⟩ := la_pre (as := as) hX hP hS hU hW
        exact ⟨rfl, ⟨h1, h2, h3, h4⟩, la_nc.moved hW.alike hnc⟩⟩ rfl (by rw [List.length_map]; exact hn) hsz rfl (lv_room hrest) hd hroom
  intro T hT X
  rcases hrun T hT X with ⟨v9, st₀, t, T', L', h0, X', hL, e1, e2, hq, st⟩ | ⟨q, st₀, t, T', L', E, ce, h0, X', hL, e1, e2, hxc, hce, hcv, hcl2, st⟩
  · obtain ⟨hv2, hP2, hF2⟩ := hq
    cases hv2
    obtain ⟨t2, a1, b1⟩ := kv t.heap (locs ++ L') hP2 (am_S2 hS h0 hF2 hL) T' e1 X'
    exact ⟨t2, st t2 a1, b1⟩
  · exact hxc.elim
/-- what out holds -/
theorem la_ol (hX : la_X p s m args c D cy o cc nL own) (hP : va_P D vwCl (am_wl o cy g) H) (hd : decode cc pc = .ok (.laload, 1)) (k : W p l e R s m args below meth c H locs cells slots Q (F0 m (pc + 1) ls (.long (g 45 0 0).toInt64 :: rest))) : W p l e R s m args below meth c H locs cells slots Q (F0 m pc ls (.int 0 :: .ref (o + am_ad 45 0) :: rest)) := by
  obtain ⟨hx, hb, hml, hown, hts, hK, hxt, hZ⟩ := id hX
  have he := am_wl_get (o := o) (cy := cy) (g := g) (f := 45) (i := 0) (by decide) (by decide)
  exact va_lald hx hb hK hP (am_ad 45 0) 4 (n := 1) (f := fun j => (g 45 0 j).toInt64) he rfl (i := 0) (by unfold vp_in; decide) hd k
theorem la_lcmp {w : Int64} (hX : la_X p s m args c D cy o cc nL own) (hd : decode cc pc = .ok (.lcmp, 1)) (k : W p l e R s m args below meth c H locs cells slots Q (F0 m (pc + 1) ls (.int 0 :: rest))) : W p l e R s m args below meth c H locs cells slots Q (F0 m pc ls (.long w :: .long w :: rest)) := by
  obtain ⟨hx, hb, -⟩ := hX
  refine W.lcmp hx hb hd ?_
  have e0 : lg_cmp w w = 0 := by
    unfold lg_cmp
    rw [if_neg (fun z => Int64.lt_irrefl z), if_pos rfl]
  rw [e0]
  exact k
end LAR
/-- what holds in the law's frame -/
def la_L (p : Program) (s : State) (m : MethodId) (meth : Method) (c : Code) (D : va_G) (cy : Nat → ClassId) (o b L : Nat) (xs : Nat → Int32) : Prop :=
  la_X p s m #[Value.ref b] c D cy o code 7 "SheetKernelLaw" ∧ la_nc s ∧ va_X b L xs s s.heap ∧ b < s.heap.size ∧ ¬ am_A o b ∧ L ≤ 384
abbrev la_lv (o b i : Nat) : List (Nat × Value) := [(0, .ref b), (1, .ref (o + am_ad 0 0)), (2, .ref (o + am_ad 24 0)), (3, .ref (o + am_ad 45 0)), (4, .int (nI i))]
