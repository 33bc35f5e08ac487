/-! the whole of the law, its entry -/
theorem lt_75 : (Jvm.Cond.classLink "SheetKernelLaw" (8 : Nat) "SheetKernel") ∈ am_TB := am_tb 75 (by decide +kernel) (by decide +kernel)
theorem lt_77 : (Jvm.Cond.methodLink "SheetKernelLaw" (62 : Nat) ({ cls := "SheetKernel", name := "<init>", desc := "()V" } : Jvm.MethodName)) ∈ am_TB := am_tb 77 (by decide +kernel) (by decide +kernel)
theorem lt_78 : (Jvm.Cond.instanceMethod ({ cls := "SheetKernel", name := "<init>", desc := "()V" } : Jvm.MethodName)) ∈ am_TB := am_tb 78 (by decide +kernel) (by decide +kernel)
theorem lt_79 : (Jvm.Cond.code ({ cls := "SheetKernel", name := "<init>", desc := "()V" } : Jvm.MethodName) prog_1_method_1_code (2 : Nat) (Option.none : Option Jvm.ClassFile.FieldType)) ∈ am_TB := am_tb 79 (by decide +kernel) (by decide +kernel)
theorem lt_776 : (Jvm.Cond.classLink "SheetKernelLaw" (63 : Nat) "SheetKernelModel") ∈ am_TB := am_tb 776 (by decide +kernel) (by decide +kernel)
theorem lt_778 : (Jvm.Cond.methodLink "SheetKernelLaw" (65 : Nat) ({ cls := "SheetKernelModel", name := "<init>", desc := "()V" } : Jvm.MethodName)) ∈ am_TB := am_tb 778 (by decide +kernel) (by decide +kernel)
theorem lt_779 : (Jvm.Cond.instanceMethod ({ cls := "SheetKernelModel", name := "<init>", desc := "()V" } : Jvm.MethodName)) ∈ am_TB := am_tb 779 (by decide +kernel) (by decide +kernel)
theorem lt_780 : (Jvm.Cond.code ({ cls := "SheetKernelModel", name := "<init>", desc := "()V" } : Jvm.MethodName) prog_9_method_1_code (2 : Nat) (Option.none : Option Jvm.ClassFile.FieldType)) ∈ am_TB := am_tb 780 (by decide +kernel) (by decide +kernel)
set_option maxHeartbeats 4000000 in
set_option maxRecDepth 100000 in
theorem whole_start {p : Program} {e : Env} {s : State} {m : MethodId} {below : List Frame} {meth : Method} {c : Code} (l : Launch) (hl0 : l.stackTraces = false) {b L : Nat} {xs : Nat → Int32} (hL : L ≤ 384) (C0 : lw_At p s m meth c b L xs) : W p l e room_1 s m #[Value.ref b] below meth c s.heap [] 0 0 (lw_Z below #[Value.ref b] s) (entryFrame m ([Value.ref b] : List Value).toArray 7) := by
  obtain ⟨hx, hb, hr, hml, hown, hts, hXs, hbl, hlocks, hgv⟩ := id C0
  have hTB := st_TB hts
  obtain ⟨D, cy, hK⟩ := st_K hts
  have hxt := st_xt hgv hts
  have hZ := st_Z hgv hts
  have hnc := st_nc hgv
  have hw := st_w hts
  obtain ⟨o, ho⟩ : ∃ o, o = s.heap.size := ⟨_, rfl⟩
  rw [← ho] at hZ
  have hX : cw_X p s m #[Value.ref b] c D cy code 7 "SheetKernelLaw" := ⟨hx, hb, hml, hown, hTB, hK, hw⟩
  have hS : va_S (am_A o) s.heap s.heap [] := va_S.rf
  have hP : va_P D vwCl (cw_l o 0 (fun _ => .inr (0, []))) s.heap := fun k q h => by simp [cw_l] at h
  have hl9 := lv_entry ([.ref b]) (n := 7) (Nat.le_of_ble_eq_true rfl)
  rw [lg_entry_eq]
  refine la_go (lv := [(0, .ref b)]) hl9 (fun ls hl => ?_)
  refine cw_new (C := RX6) (T := TX6) (N := 5) (ci := 6) (n := 0) (w := fun _ => .inr (0, [])) (fs := [.null, .null, .null, .null, .null]) hX iw6 tyX6 tyX6_ok lt_75 lt_76 lt_60 rfl (by decide) (by omega) (by omega) (by decide) (by decide) (show decode code 0 = .ok (.new 8, 3) by decide +kernel) hP hS (fun H1 hP1 hS1 => ?_)
  refine lv_dup hx hb (show decode code 3 = .ok (.dup, 1) by decide +kernel) rfl ?_
  refine cw_init (a := 0) (n := 1) (w := cw_up (fun _ => .inr (0, [])) 0 (.inr (6, [.null, .null, .null, .null, .null]))) hX hl.1 (iX6 cw_up_at) lt_77 lt_79 lt_60 lt_78 rfl (by decide +kernel) (by decide +kernel) (by decide) (show decode code 4 = .ok (.invokespecial 62, 3) by decide +kernel) (Nat.le_of_ble_eq_true rfl) ⟨by decide, by decide⟩ (by omega) (by omega) hP1 hS1 (fun H2 locs2 hP2 hS2 => ?_)
  refine lv_astore_n (lv' := [(1, .ref (o + 0)), (0, .ref b)]) hx hb (show decode code 7 = .ok (.astore_n 1, 1) by decide +kernel) rfl hl (by decide) rfl (fun ls hl => ?_)
  refine cw_new (C := RX7) (T := TX7) (N := 22) (ci := 7) (n := 313) (w := ct_W o cy (ck_B o cy (cw_up (fun _ => .inr (0, [])) 0 (.inr (6, [.null, .null, .null, .null, .null])))) 8) (fs := [.int 0, .null, .null, .null, .null, .null, .null, .null, .null, .null, .null, .null, .null, .null, .null, .null, .null, .int 0, .null, .null, .null, .null]) hX iw7 tyX7 tyX7_ok lt_776 lt_777 lt_67 rfl (by decide) (by omega) (by omega) (by decide) (by decide) (show decode code 8 = .ok (.new 63, 3) by decide +kernel) hP2 hS2 (fun H3 hP3 hS3 => ?_)
  refine lv_dup hx hb (show decode code 11 = .ok (.dup, 1) by decide +kernel) rfl ?_
  refine cw_init (a := 313) (n := 314) (w := cw_up (ct_W o cy (ck_B o cy (cw_up (fun _ => .inr (0, [])) 0 (.inr (6, [.null, .null, .null, .null, .null])))) 8) 313 (.inr (7, [.int 0, .null, .null, .null, .null, .null, .null, .null, .null, .null, .null, .null, .null, .null, .null, .null, .null, .int 0, .null, .null, .null, .null]))) hX hl.1 (iX7 cw_up_at) lt_778 lt_780 lt_67 lt_779 rfl (by decide +kernel) (by decide +kernel) (by decide) (show decode code 12 = .ok (.invokespecial 65, 3) by decide +kernel) (Nat.le_of_ble_eq_true rfl) ⟨by decide, by decide⟩ (by omega) (by omega) hP3 hS3 (fun H4 locs4 hP4 hS4 => ?_)
  refine lv_astore_n (lv' := [(2, .ref (o + 313)), (1, .ref (o + 0)), (0, .ref b)]) hx hb (show decode code 15 = .ok (.astore_n 2, 1) by decide +kernel) rfl hl (by decide) rfl (fun ls hl => ?_)
  refine lv_iconst (v := 1) hx hb (show decode code 16 = .ok (.iconst 1, 1) by decide +kernel) (by decide) ?_
  refine cw_newa (atype := .long) (t0 := 4) (ty := .long) (N := 1) (a0 := (1, .inr (.inl (fun _ => 0)))) (n := 334) hX lt_1056 rfl (fun C z => by cases z) rfl (fun _ => rfl) (by decide) (by decide) (by decide) (by omega) (by omega) (by decide) (by decide) (show decode code 17 = .ok (.newarray .long, 2) by decide +kernel) hP4 hS4 (fun H5 hP5 hS5 => ?_)
  refine lv_astore_n (lv' := [(3, .ref (o + 334)), (2, .ref (o + 313)), (1, .ref (o + 0)), (0, .ref b)]) hx hb (show decode code 19 = .ok (.astore_n 3, 1) by decide +kernel) rfl hl (by decide) rfl (fun ls hl => ?_)
  refine lv_iconst (v := 0) hx hb (show decode code 20 = .ok (.iconst 0, 1) by decide +kernel) (by decide) ?_
  refine lv_istore (lv' := [(4, .int 0), (3, .ref (o + 334)), (2, .ref (o + 313)), (1, .ref (o + 0)), (0, .ref b)]) hx hb (show decode code 21 = .ok (.istore 4, 2) by decide +kernel) hl (by decide) rfl (fun ls hl => ?_)
  have hP6 : va_P D vwCl (am_wl o cy g0) H5 := by
    have h9 : va_P D vwCl (cw_l o 335 (cf_W o cy (fun _ => .inr (0, [])) (.inr (6, [.null, .null, .null, .null, .null])) (.inr (7, [.int 0, .null, .null, .null, .null, .null, .null, .null, .null, .null, .null, .null, .null, .null, .null, .null, .null, .int 0, .null, .null, .null, .null])))) H5 := hP5
    exact cw_same (w' := cf_T o cy) cf_all h9
  have hLL : la_L p s m meth c D cy o b L xs := ⟨⟨hx, hb, hml, hown, hTB, hK, hxt, hZ⟩, hnc, hXs, hbl, fun z => absurd hbl (by rw [← ho]; exact Nat.not_lt.mpr z), hL⟩
  refine W.widen (k := 1000 + 4 * 0) (n := 20000 + 24 * 0) (by decide) (by decide) ?_
  exact law_loop hl0 hLL hr hlocks ho.symm 65 0 g0 H5 locs4 ls rfl ⟨⟨g0, g0_Q⟩, g0, g0_Q⟩ hP6 hS5 (lv_sub hl [4, 3, 2, 1, 0] rfl)
