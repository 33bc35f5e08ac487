/-! the law's wrappers (printed by gen/wrap.py) -/
theorem lt_60 : (Jvm.Cond.initialized "SheetKernel") ∈ am_TB := am_tb 60 (by decide +kernel) (by decide +kernel)
theorem lt_366 : (Jvm.Cond.classLink "SheetKernelLaw" (13 : Nat) "java/lang/IllegalStateException") ∈ am_TB := am_tb 366 (by decide +kernel) (by decide +kernel)
theorem lt_367 : (Jvm.Cond.methodLink "SheetKernelLaw" (7 : Nat) ({ cls := "SheetKernel", name := "spawn", desc := "()I" } : Jvm.MethodName)) ∈ am_TB := am_tb 367 (by decide +kernel) (by decide +kernel)
theorem lt_368 : (Jvm.Cond.instanceMethod ({ cls := "SheetKernel", name := "spawn", desc := "()I" } : Jvm.MethodName)) ∈ am_TB := am_tb 368 (by decide +kernel) (by decide +kernel)
theorem lt_369 : (Jvm.Cond.selects "SheetKernel" ({ cls := "SheetKernel", name := "spawn", desc := "()I" } : Jvm.MethodName) ({ cls := "SheetKernel", name := "spawn", desc := "()I" } : Jvm.MethodName)) ∈ am_TB := am_tb 369 (by decide +kernel) (by decide +kernel)
theorem lt_370 : (Jvm.Cond.code ({ cls := "SheetKernel", name := "spawn", desc := "()I" } : Jvm.MethodName) prog_1_method_2_code (2 : Nat) (Option.some Jvm.ClassFile.FieldType.int)) ∈ am_TB := am_tb 370 (by decide +kernel) (by decide +kernel)
theorem lt_451 : (Jvm.Cond.classLink "SheetKernelLaw" (19 : Nat) "java/lang/IndexOutOfBoundsException") ∈ am_TB := am_tb 451 (by decide +kernel) (by decide +kernel)
theorem lt_452 : (Jvm.Cond.classLink "SheetKernelLaw" (21 : Nat) "java/lang/IllegalArgumentException") ∈ am_TB := am_tb 452 (by decide +kernel) (by decide +kernel)
theorem lt_453 : (Jvm.Cond.methodLink "SheetKernelLaw" (15 : Nat) ({ cls := "SheetKernel", name := "area", desc := "(IIII)V" } : Jvm.MethodName)) ∈ am_TB := am_tb 453 (by decide +kernel) (by decide +kernel)
theorem lt_454 : (Jvm.Cond.instanceMethod ({ cls := "SheetKernel", name := "area", desc := "(IIII)V" } : Jvm.MethodName)) ∈ am_TB := am_tb 454 (by decide +kernel) (by decide +kernel)
theorem lt_455 : (Jvm.Cond.selects "SheetKernel" ({ cls := "SheetKernel", name := "area", desc := "(IIII)V" } : Jvm.MethodName) ({ cls := "SheetKernel", name := "area", desc := "(IIII)V" } : Jvm.MethodName)) ∈ am_TB := am_tb 455 (by decide +kernel) (by decide +kernel)
theorem lt_456 : (Jvm.Cond.code ({ cls := "SheetKernel", name := "area", desc := "(IIII)V" } : Jvm.MethodName) prog_1_method_3_code (7 : Nat) (Option.none : Option Jvm.ClassFile.FieldType)) ∈ am_TB := am_tb 456 (by decide +kernel) (by decide +kernel)
theorem lt_520 : (Jvm.Cond.methodLink "SheetKernelLaw" (23 : Nat) ({ cls := "SheetKernel", name := "share", desc := "(IIIII)V" } : Jvm.MethodName)) ∈ am_TB := am_tb 520 (by decide +kernel) (by decide +kernel)
theorem lt_521 : (Jvm.Cond.instanceMethod ({ cls := "SheetKernel", name := "share", desc := "(IIIII)V" } : Jvm.MethodName)) ∈ am_TB := am_tb 521 (by decide +kernel) (by decide +kernel)
theorem lt_522 : (Jvm.Cond.selects "SheetKernel" ({ cls := "SheetKernel", name := "share", desc := "(IIIII)V" } : Jvm.MethodName) ({ cls := "SheetKernel", name := "share", desc := "(IIIII)V" } : Jvm.MethodName)) ∈ am_TB := am_tb 522 (by decide +kernel) (by decide +kernel)
theorem lt_523 : (Jvm.Cond.code ({ cls := "SheetKernel", name := "share", desc := "(IIIII)V" } : Jvm.MethodName) prog_1_method_4_code (9 : Nat) (Option.none : Option Jvm.ClassFile.FieldType)) ∈ am_TB := am_tb 523 (by decide +kernel) (by decide +kernel)
theorem lt_542 : (Jvm.Cond.methodLink "SheetKernelLaw" (27 : Nat) ({ cls := "SheetKernel", name := "free", desc := "(III)V" } : Jvm.MethodName)) ∈ am_TB := am_tb 542 (by decide +kernel) (by decide +kernel)
theorem lt_543 : (Jvm.Cond.instanceMethod ({ cls := "SheetKernel", name := "free", desc := "(III)V" } : Jvm.MethodName)) ∈ am_TB := am_tb 543 (by decide +kernel) (by decide +kernel)
theorem lt_544 : (Jvm.Cond.selects "SheetKernel" ({ cls := "SheetKernel", name := "free", desc := "(III)V" } : Jvm.MethodName) ({ cls := "SheetKernel", name := "free", desc := "(III)V" } : Jvm.MethodName)) ∈ am_TB := am_tb 544 (by decide +kernel) (by decide +kernel)
theorem lt_545 : (Jvm.Cond.code ({ cls := "SheetKernel", name := "free", desc := "(III)V" } : Jvm.MethodName) prog_1_method_5_code (6 : Nat) (Option.none : Option Jvm.ClassFile.FieldType)) ∈ am_TB := am_tb 545 (by decide +kernel) (by decide +kernel)
theorem lt_573 : (Jvm.Cond.methodLink "SheetKernelLaw" (31 : Nat) ({ cls := "SheetKernel", name := "fork", desc := "(I)I" } : Jvm.MethodName)) ∈ am_TB := am_tb 573 (by decide +kernel) (by decide +kernel)
theorem lt_574 : (Jvm.Cond.instanceMethod ({ cls := "SheetKernel", name := "fork", desc := "(I)I" } : Jvm.MethodName)) ∈ am_TB := am_tb 574 (by decide +kernel) (by decide +kernel)
theorem lt_575 : (Jvm.Cond.selects "SheetKernel" ({ cls := "SheetKernel", name := "fork", desc := "(I)I" } : Jvm.MethodName) ({ cls := "SheetKernel", name := "fork", desc := "(I)I" } : Jvm.MethodName)) ∈ am_TB := am_tb 575 (by decide +kernel) (by decide +kernel)
theorem lt_576 : (Jvm.Cond.code ({ cls := "SheetKernel", name := "fork", desc := "(I)I" } : Jvm.MethodName) prog_1_method_6_code (3 : Nat) (Option.some Jvm.ClassFile.FieldType.int)) ∈ am_TB := am_tb 576 (by decide +kernel) (by decide +kernel)
theorem lt_585 : (Jvm.Cond.methodLink "SheetKernelLaw" (35 : Nat) ({ cls := "SheetKernel", name := "exit", desc := "(I)V" } : Jvm.MethodName)) ∈ am_TB := am_tb 585 (by decide +kernel) (by decide +kernel)
theorem lt_586 : (Jvm.Cond.instanceMethod ({ cls := "SheetKernel", name := "exit", desc := "(I)V" } : Jvm.MethodName)) ∈ am_TB := am_tb 586 (by decide +kernel) (by decide +kernel)
theorem lt_587 : (Jvm.Cond.selects "SheetKernel" ({ cls := "SheetKernel", name := "exit", desc := "(I)V" } : Jvm.MethodName) ({ cls := "SheetKernel", name := "exit", desc := "(I)V" } : Jvm.MethodName)) ∈ am_TB := am_tb 587 (by decide +kernel) (by decide +kernel)
theorem lt_588 : (Jvm.Cond.code ({ cls := "SheetKernel", name := "exit", desc := "(I)V" } : Jvm.MethodName) prog_1_method_7_code (2 : Nat) (Option.none : Option Jvm.ClassFile.FieldType)) ∈ am_TB := am_tb 588 (by decide +kernel) (by decide +kernel)
theorem lt_596 : (Jvm.Cond.classLink "SheetKernelLaw" (43 : Nat) "java/lang/UnsupportedOperationException") ∈ am_TB := am_tb 596 (by decide +kernel) (by decide +kernel)
theorem lt_597 : (Jvm.Cond.methodLink "SheetKernelLaw" (39 : Nat) ({ cls := "SheetKernel", name := "read", desc := "(II)I" } : Jvm.MethodName)) ∈ am_TB := am_tb 597 (by decide +kernel) (by decide +kernel)
theorem lt_598 : (Jvm.Cond.instanceMethod ({ cls := "SheetKernel", name := "read", desc := "(II)I" } : Jvm.MethodName)) ∈ am_TB := am_tb 598 (by decide +kernel) (by decide +kernel)
theorem lt_599 : (Jvm.Cond.selects "SheetKernel" ({ cls := "SheetKernel", name := "read", desc := "(II)I" } : Jvm.MethodName) ({ cls := "SheetKernel", name := "read", desc := "(II)I" } : Jvm.MethodName)) ∈ am_TB := am_tb 599 (by decide +kernel) (by decide +kernel)
theorem lt_600 : (Jvm.Cond.code ({ cls := "SheetKernel", name := "read", desc := "(II)I" } : Jvm.MethodName) prog_1_method_9_code (5 : Nat) (Option.some Jvm.ClassFile.FieldType.int)) ∈ am_TB := am_tb 600 (by decide +kernel) (by decide +kernel)
theorem lt_721 : (Jvm.Cond.methodLink "SheetKernelLaw" (45 : Nat) ({ cls := "SheetKernel", name := "write", desc := "(III)V" } : Jvm.MethodName)) ∈ am_TB := am_tb 721 (by decide +kernel) (by decide +kernel)
theorem lt_722 : (Jvm.Cond.instanceMethod ({ cls := "SheetKernel", name := "write", desc := "(III)V" } : Jvm.MethodName)) ∈ am_TB := am_tb 722 (by decide +kernel) (by decide +kernel)
theorem lt_723 : (Jvm.Cond.selects "SheetKernel" ({ cls := "SheetKernel", name := "write", desc := "(III)V" } : Jvm.MethodName) ({ cls := "SheetKernel", name := "write", desc := "(III)V" } : Jvm.MethodName)) ∈ am_TB := am_tb 723 (by decide +kernel) (by decide +kernel)
theorem lt_724 : (Jvm.Cond.code ({ cls := "SheetKernel", name := "write", desc := "(III)V" } : Jvm.MethodName) prog_1_method_10_code (4 : Nat) (Option.none : Option Jvm.ClassFile.FieldType)) ∈ am_TB := am_tb 724 (by decide +kernel) (by decide +kernel)
theorem lt_732 : (Jvm.Cond.methodLink "SheetKernelLaw" (48 : Nat) ({ cls := "SheetKernel", name := "load", desc := "(III)V" } : Jvm.MethodName)) ∈ am_TB := am_tb 732 (by decide +kernel) (by decide +kernel)
theorem lt_733 : (Jvm.Cond.instanceMethod ({ cls := "SheetKernel", name := "load", desc := "(III)V" } : Jvm.MethodName)) ∈ am_TB := am_tb 733 (by decide +kernel) (by decide +kernel)
theorem lt_734 : (Jvm.Cond.selects "SheetKernel" ({ cls := "SheetKernel", name := "load", desc := "(III)V" } : Jvm.MethodName) ({ cls := "SheetKernel", name := "load", desc := "(III)V" } : Jvm.MethodName)) ∈ am_TB := am_tb 734 (by decide +kernel) (by decide +kernel)
theorem lt_735 : (Jvm.Cond.code ({ cls := "SheetKernel", name := "load", desc := "(III)V" } : Jvm.MethodName) prog_1_method_11_code (4 : Nat) (Option.none : Option Jvm.ClassFile.FieldType)) ∈ am_TB := am_tb 735 (by decide +kernel) (by decide +kernel)
theorem lt_739 : (Jvm.Cond.methodLink "SheetKernelLaw" (51 : Nat) ({ cls := "SheetKernel", name := "run", desc := "(II)I" } : Jvm.MethodName)) ∈ am_TB := am_tb 739 (by decide +kernel) (by decide +kernel)
theorem lt_740 : (Jvm.Cond.instanceMethod ({ cls := "SheetKernel", name := "run", desc := "(II)I" } : Jvm.MethodName)) ∈ am_TB := am_tb 740 (by decide +kernel) (by decide +kernel)
theorem lt_741 : (Jvm.Cond.selects "SheetKernel" ({ cls := "SheetKernel", name := "run", desc := "(II)I" } : Jvm.MethodName) ({ cls := "SheetKernel", name := "run", desc := "(II)I" } : Jvm.MethodName)) ∈ am_TB := am_tb 741 (by decide +kernel) (by decide +kernel)
theorem lt_742 : (Jvm.Cond.code ({ cls := "SheetKernel", name := "run", desc := "(II)I" } : Jvm.MethodName) prog_1_method_12_code (7 : Nat) (Option.some Jvm.ClassFile.FieldType.int)) ∈ am_TB := am_tb 742 (by decide +kernel) (by decide +kernel)
theorem lt_759 : (Jvm.Cond.methodLink "SheetKernelLaw" (54 : Nat) ({ cls := "SheetKernel", name := "slot", desc := "(II)V" } : Jvm.MethodName)) ∈ am_TB := am_tb 759 (by decide +kernel) (by decide +kernel)
theorem lt_760 : (Jvm.Cond.instanceMethod ({ cls := "SheetKernel", name := "slot", desc := "(II)V" } : Jvm.MethodName)) ∈ am_TB := am_tb 760 (by decide +kernel) (by decide +kernel)
theorem lt_761 : (Jvm.Cond.selects "SheetKernel" ({ cls := "SheetKernel", name := "slot", desc := "(II)V" } : Jvm.MethodName) ({ cls := "SheetKernel", name := "slot", desc := "(II)V" } : Jvm.MethodName)) ∈ am_TB := am_tb 761 (by decide +kernel) (by decide +kernel)
theorem lt_762 : (Jvm.Cond.code ({ cls := "SheetKernel", name := "slot", desc := "(II)V" } : Jvm.MethodName) prog_1_method_13_code (3 : Nat) (Option.none : Option Jvm.ClassFile.FieldType)) ∈ am_TB := am_tb 762 (by decide +kernel) (by decide +kernel)
theorem lt_772 : (Jvm.Cond.methodLink "SheetKernelLaw" (58 : Nat) ({ cls := "SheetKernel", name := "valuable", desc := "(IZ)V" } : Jvm.MethodName)) ∈ am_TB := am_tb 772 (by decide +kernel) (by decide +kernel)
theorem lt_773 : (Jvm.Cond.instanceMethod ({ cls := "SheetKernel", name := "valuable", desc := "(IZ)V" } : Jvm.MethodName)) ∈ am_TB := am_tb 773 (by decide +kernel) (by decide +kernel)
theorem lt_774 : (Jvm.Cond.selects "SheetKernel" ({ cls := "SheetKernel", name := "valuable", desc := "(IZ)V" } : Jvm.MethodName) ({ cls := "SheetKernel", name := "valuable", desc := "(IZ)V" } : Jvm.MethodName)) ∈ am_TB := am_tb 774 (by decide +kernel) (by decide +kernel)
theorem lt_775 : (Jvm.Cond.code ({ cls := "SheetKernel", name := "valuable", desc := "(IZ)V" } : Jvm.MethodName) prog_1_method_8_code (3 : Nat) (Option.none : Option Jvm.ClassFile.FieldType)) ∈ am_TB := am_tb 775 (by decide +kernel) (by decide +kernel)
def rL_spawn : Room := { frames := 7, cells := 1, slots := 6, locals := 111 }
theorem wL_spawn {l : Launch} (hl0 : l.stackTraces = false) {v : Int32} {g g1 : am_S} (h : la_wI th_3 (vX6_spawn g) v g1) : la_Ct l yL_spawn cL_spawn 3 [(0, 8, 11, 13)] rL_spawn [.inr (.inr (0, 0)), .inr (.inr (45, 0))] g v g1 := by
  intro D cy o
  refine vx_ofWH (cc := cL_spawn) (maxL := 3) (ret := some .int) (hh := [(0, 8, 11, 13)]) (by decide +kernel) rfl ?_
  intro p e s m args below meth c s₁ B hml hv
  obtain ⟨rfl, ⟨hK, hxt, hZ, hP⟩, hnc⟩ := hv
  have hts0 := atoms_spec (ws := Cond.codeWith yL_spawn cL_spawn 3 (some .int) [(0, 8, 11, 13)] :: am_TB) B.pre
  have htb := vx_table (x := yL_spawn) B (hts0 _ List.mem_cons_self)
  have hx := B.exec
  have hb := B.bytes
  have hX : la_X p s m _ c D cy o cL_spawn 3 "SheetKernelLaw" := ⟨hx, hb, hml, findClass_of_methodNamed B.named, fun w hw => hts0 w (List.mem_cons_of_mem _ hw), hK, hxt, hZ⟩
  have hl9 := lv_entry (List.map (am_cv o) [.inr (.inr (0, 0)), .inr (.inr (45, 0))]) (n := 3) (by rw [am_sl_len]; exact Nat.le_of_ble_eq_true rfl)
  rw [lg_entry_eq]
  refine la_go (lv := [(0, .ref (o + am_ad 0 0)), (1, .ref (o + am_ad 45 0))]) hl9 (fun ls hl => ?_)
  show W p l e rL_spawn s m _ below meth c s.heap [] 0 0 _ _
  refine lv_aload_n hx hb (show decode cL_spawn 0 = .ok (.aload_n 1, 1) by decide +kernel) rfl (lv_at hl 1 rfl) ?_
  refine lv_iconst (v := 0) hx hb (show decode cL_spawn 1 = .ok (.iconst 0, 1) by decide +kernel) (by decide) ?_
  refine lv_aload_n hx hb (show decode cL_spawn 2 = .ok (.aload_n 0, 1) by decide +kernel) rfl (lv_at hl 0 rfl) ?_
  rcases h with ⟨w, gA, hF, rfl, rfl⟩ | ⟨k, hF, rfl, hne⟩
  · refine la_V1 (idx := 7) (f := 0) (n := 0) (rr := .inl (some (.inl w))) (g' := gA) (rest := [.int 0, .ref (o + am_ad 45 0)]) [] hX hl.1 ⟨kX6_spawn l hl0, lt_367, lt_370, lt_60, by decide +kernel, by decide +kernel, by decide⟩ (show decode cL_spawn 3 = .ok (.invokevirtual 7, 3) by decide +kernel) lt_368 lt_369 (by decide) rfl rfl rfl rfl rfl (Nat.le_of_ble_eq_true rfl) ⟨Nat.le_refl _, Nat.le_refl _⟩ hP va_S.rf (show am_M tX6_spawn 2 [.inr (.inr (0, 0))] g = some (.inl (some (.inl w)), gA) from hF) (fun z hz H1 locs1 hP1 hS1 => ?_) (fun k hk => by cases hk)
    cases hz
    refine lv_i2l (x := w) (v := w.toInt64) hx hb (show decode cL_spawn 6 = .ok (.i2l, 1) by decide +kernel) rfl ?_
    refine la_out (w := w) hX hP1 hS1 (show decode cL_spawn 7 = .ok (.lastore, 1) by decide +kernel) (fun H2 locs2 hP2 hS2 => ?_)
    refine lv_goto (tgt := 14) hx hb (show decode cL_spawn 8 = .ok (.goto 6, 3) by decide +kernel) (by decide) ?_
    refine lv_iconst (v := 0) hx hb (show decode cL_spawn 14 = .ok (.iconst 0, 1) by decide +kernel) (by decide) ?_
    exact la_ret hX B.returns B.notSynchronized (show decode cL_spawn 15 = .ok (.ireturn, 1) by decide +kernel) hP2 hS2
  · refine la_V1 (idx := 7) (f := 0) (n := 0) (rr := .inr k) (g' := g1) (rest := [.int 0, .ref (o + am_ad 45 0)]) [] hX hl.1 ⟨kX6_spawn l hl0, lt_367, lt_370, lt_60, by decide +kernel, by decide +kernel, by decide⟩ (show decode cL_spawn 3 = .ok (.invokevirtual 7, 3) by decide +kernel) lt_368 lt_369 (by decide) rfl rfl rfl rfl rfl (Nat.le_of_ble_eq_true rfl) ⟨Nat.le_refl _, Nat.le_refl _⟩ hP va_S.rf (show am_M tX6_spawn 2 [.inr (.inr (0, 0))] g = some (.inr k, g1) from hF) (fun z hz => by cases hz) (fun k9 hk9 H1 locs1 q ce hP1 hS1 hce hcv hcl => ?_)
    cases hk9
    obtain ⟨rfl, hv⟩ := th_3_c hne
    rw [hv]
    refine la_catch (k := 3) hX hnc htb [] (0, 8, 11, 13) [] rfl (by decide) (by decide) lt_366 (by decide) (fun _ hz => absurd hz List.not_mem_nil) hce hcv hcl ?_
    refine lv_astore_n (x := q) hx hb (show decode cL_spawn 11 = .ok (.astore_n 2, 1) by decide +kernel) rfl hl (by decide) rfl (fun ls hl => ?_)
    refine lv_iconst (v := 1) hx hb (show decode cL_spawn 12 = .ok (.iconst 1, 1) by decide +kernel) (by decide) ?_
    exact la_ret hX B.returns B.notSynchronized (show decode cL_spawn 13 = .ok (.ireturn, 1) by decide +kernel) hP1 hS1
def rL_area : Room := { frames := 8, cells := 1, slots := 6, locals := 140 }
theorem wL_area {l : Launch} (hl0 : l.stackTraces = false) {x1 x2 x3 x4 v : Int32} {g g1 : am_S} (h : la_wV th_123 (vX6_area x1 x2 x3 x4 g) v g1) : la_Ct l yL_area cL_area 6 [(0, 9, 12, 19), (0, 9, 16, 21), (0, 9, 20, 13)] rL_area [.inr (.inr (0, 0)), .inl x1, .inl x2, .inl x3, .inl x4] g v g1 := by
  intro D cy o
  refine vx_ofWH (cc := cL_area) (maxL := 6) (ret := some .int) (hh := [(0, 9, 12, 19), (0, 9, 16, 21), (0, 9, 20, 13)]) (by decide +kernel) rfl ?_
  intro p e s m args below meth c s₁ B hml hv
  obtain ⟨rfl, ⟨hK, hxt, hZ, hP⟩, hnc⟩ := hv
  have hts0 := atoms_spec (ws := Cond.codeWith yL_area cL_area 6 (some .int) [(0, 9, 12, 19), (0, 9, 16, 21), (0, 9, 20, 13)] :: am_TB) B.pre
  have htb := vx_table (x := yL_area) B (hts0 _ List.mem_cons_self)
  have hx := B.exec
  have hb := B.bytes
  have hX : la_X p s m _ c D cy o cL_area 6 "SheetKernelLaw" := ⟨hx, hb, hml, findClass_of_methodNamed B.named, fun w hw => hts0 w (List.mem_cons_of_mem _ hw), hK, hxt, hZ⟩
  have hl9 := lv_entry (List.map (am_cv o) [.inr (.inr (0, 0)), .inl x1, .inl x2, .inl x3, .inl x4]) (n := 6) (by rw [am_sl_len]; exact Nat.le_of_ble_eq_true rfl)
  rw [lg_entry_eq]
  refine la_go (lv := [(0, .ref (o + am_ad 0 0)), (1, .int x1), (2, .int x2), (3, .int x3), (4, .int x4)]) hl9 (fun ls hl => ?_)
  show W p l e rL_area s m _ below meth c s.heap [] 0 0 _ _
  refine lv_aload_n hx hb (show decode cL_area 0 = .ok (.aload_n 0, 1) by decide +kernel) rfl (lv_at hl 0 rfl) ?_
  refine lv_iload_n hx hb (show decode cL_area 1 = .ok (.iload_n 1, 1) by decide +kernel) rfl (lv_at hl 1 rfl) ?_
  refine lv_iload_n hx hb (show decode cL_area 2 = .ok (.iload_n 2, 1) by decide +kernel) rfl (lv_at hl 2 rfl) ?_
  refine lv_iload_n hx hb (show decode cL_area 3 = .ok (.iload_n 3, 1) by decide +kernel) rfl (lv_at hl 3 rfl) ?_
  refine lv_iload hx hb (show decode cL_area 4 = .ok (.iload 4, 2) by decide +kernel) (lv_at hl 4 rfl) ?_
  rcases h with ⟨hF, rfl⟩ | ⟨k, hF, rfl, hne⟩
  · refine la_V1 (idx := 15) (f := 0) (n := 4) (rr := .inl none) (g' := g1) (rest := []) [.inl x1, .inl x2, .inl x3, .inl x4] hX hl.1 ⟨kX6_area l hl0, lt_453, lt_456, lt_60, by decide +kernel, by decide +kernel, by decide⟩ (show decode cL_area 6 = .ok (.invokevirtual 15, 3) by decide +kernel) lt_454 lt_455 (by decide) rfl rfl rfl rfl rfl (Nat.le_of_ble_eq_true rfl) ⟨Nat.le_refl _, Nat.le_refl _⟩ hP va_S.rf (show am_M tX6_area 7 [.inr (.inr (0, 0)), .inl x1, .inl x2, .inl x3, .inl x4] g = some (.inl none, g1) from hF) (fun z hz H1 locs1 hP1 hS1 => ?_) (fun k hk => by cases hk)
    cases hz
    refine lv_goto (tgt := 24) hx hb (show decode cL_area 9 = .ok (.goto 15, 3) by decide +kernel) (by decide) ?_
    refine lv_iconst (v := 0) hx hb (show decode cL_area 24 = .ok (.iconst 0, 1) by decide +kernel) (by decide) ?_
    exact la_ret hX B.returns B.notSynchronized (show decode cL_area 25 = .ok (.ireturn, 1) by decide +kernel) hP1 hS1
  · refine la_V1 (idx := 15) (f := 0) (n := 4) (rr := .inr k) (g' := g1) (rest := []) [.inl x1, .inl x2, .inl x3, .inl x4] hX hl.1 ⟨kX6_area l hl0, lt_453, lt_456, lt_60, by decide +kernel, by decide +kernel, by decide⟩ (show decode cL_area 6 = .ok (.invokevirtual 15, 3) by decide +kernel) lt_454 lt_455 (by decide) rfl rfl rfl rfl rfl (Nat.le_of_ble_eq_true rfl) ⟨Nat.le_refl _, Nat.le_refl _⟩ hP va_S.rf (show am_M tX6_area 7 [.inr (.inr (0, 0)), .inl x1, .inl x2, .inl x3, .inl x4] g = some (.inr k, g1) from hF) (fun z hz => by cases hz) (fun k9 hk9 H1 locs1 q ce hP1 hS1 hce hcv hcl => ?_)
    cases hk9
    rcases th_123_c hne with ⟨rfl, hv⟩ | ⟨rfl, hv⟩ | ⟨rfl, hv⟩
    · rw [hv]
      refine la_catch (k := 1) hX hnc htb [] (0, 9, 12, 19) [(0, 9, 16, 21), (0, 9, 20, 13)] rfl (by decide) (by decide) lt_451 (by decide) (fun _ hz => absurd hz List.not_mem_nil) hce hcv hcl ?_
      refine lv_astore (x := q) hx hb (show decode cL_area 12 = .ok (.astore 5, 2) by decide +kernel) hl (by decide) rfl (fun ls hl => ?_)
      refine lv_iconst (v := 1) hx hb (show decode cL_area 14 = .ok (.iconst 1, 1) by decide +kernel) (by decide) ?_
      exact la_ret hX B.returns B.notSynchronized (show decode cL_area 15 = .ok (.ireturn, 1) by decide +kernel) hP1 hS1
    · rw [hv]
      refine la_catch (k := 2) hX hnc htb [(0, 9, 12, 19)] (0, 9, 16, 21) [(0, 9, 20, 13)] rfl (by decide) (by decide) lt_452 (by decide) (List.forall_mem_cons.mpr ⟨⟨by decide, "java/lang/IndexOutOfBoundsException", by decide, by decide, lt_451⟩, fun _ hz => absurd hz List.not_mem_nil⟩) hce hcv hcl ?_
      refine lv_astore (x := q) hx hb (show decode cL_area 16 = .ok (.astore 5, 2) by decide +kernel) hl (by decide) rfl (fun ls hl => ?_)
      refine lv_iconst (v := 2) hx hb (show decode cL_area 18 = .ok (.iconst 2, 1) by decide +kernel) (by decide) ?_
      exact la_ret hX B.returns B.notSynchronized (show decode cL_area 19 = .ok (.ireturn, 1) by decide +kernel) hP1 hS1
    · rw [hv]
      refine la_catch (k := 3) hX hnc htb [(0, 9, 12, 19), (0, 9, 16, 21)] (0, 9, 20, 13) [] rfl (by decide) (by decide) lt_366 (by decide) (List.forall_mem_cons.mpr ⟨⟨by decide, "java/lang/IndexOutOfBoundsException", by decide, by decide, lt_451⟩, List.forall_mem_cons.mpr ⟨⟨by decide, "java/lang/IllegalArgumentException", by decide, by decide, lt_452⟩, fun _ hz => absurd hz List.not_mem_nil⟩⟩) hce hcv hcl ?_
      refine lv_astore (x := q) hx hb (show decode cL_area 20 = .ok (.astore 5, 2) by decide +kernel) hl (by decide) rfl (fun ls hl => ?_)
      refine lv_iconst (v := 3) hx hb (show decode cL_area 22 = .ok (.iconst 3, 1) by decide +kernel) (by decide) ?_
      exact la_ret hX B.returns B.notSynchronized (show decode cL_area 23 = .ok (.ireturn, 1) by decide +kernel) hP1 hS1
def rL_share : Room := { frames := 9, cells := 1, slots := 6, locals := 166 }
theorem wL_share {l : Launch} (hl0 : l.stackTraces = false) {x1 x2 x3 x4 x5 v : Int32} {g g1 : am_S} (h : la_wV th_123 (vX6_share x1 x2 x3 x4 x5 g) v g1) : la_Ct l yL_share cL_share 7 [(0, 11, 14, 19), (0, 11, 18, 21), (0, 11, 22, 13)] rL_share [.inr (.inr (0, 0)), .inl x1, .inl x2, .inl x3, .inl x4, .inl x5] g v g1 := by
  intro D cy o
  refine vx_ofWH (cc := cL_share) (maxL := 7) (ret := some .int) (hh := [(0, 11, 14, 19), (0, 11, 18, 21), (0, 11, 22, 13)]) (by decide +kernel) rfl ?_
  intro p e s m args below meth c s₁ B hml hv
  obtain ⟨rfl, ⟨hK, hxt, hZ, hP⟩, hnc⟩ := hv
  have hts0 := atoms_spec (ws := Cond.codeWith yL_share cL_share 7 (some .int) [(0, 11, 14, 19), (0, 11, 18, 21), (0, 11, 22, 13)] :: am_TB) B.pre
  have htb := vx_table (x := yL_share) B (hts0 _ List.mem_cons_self)
  have hx := B.exec
  have hb := B.bytes
  have hX : la_X p s m _ c D cy o cL_share 7 "SheetKernelLaw" := ⟨hx, hb, hml, findClass_of_methodNamed B.named, fun w hw => hts0 w (List.mem_cons_of_mem _ hw), hK, hxt, hZ⟩
  have hl9 := lv_entry (List.map (am_cv o) [.inr (.inr (0, 0)), .inl x1, .inl x2, .inl x3, .inl x4, .inl x5]) (n := 7) (by rw [am_sl_len]; exact Nat.le_of_ble_eq_true rfl)
  rw [lg_entry_eq]
  refine la_go (lv := [(0, .ref (o + am_ad 0 0)), (1, .int x1), (2, .int x2), (3, .int x3), (4, .int x4), (5, .int x5)]) hl9 (fun ls hl => ?_)
  show W p l e rL_share s m _ below meth c s.heap [] 0 0 _ _
  refine lv_aload_n hx hb (show decode cL_share 0 = .ok (.aload_n 0, 1) by decide +kernel) rfl (lv_at hl 0 rfl) ?_
  refine lv_iload_n hx hb (show decode cL_share 1 = .ok (.iload_n 1, 1) by decide +kernel) rfl (lv_at hl 1 rfl) ?_
  refine lv_iload_n hx hb (show decode cL_share 2 = .ok (.iload_n 2, 1) by decide +kernel) rfl (lv_at hl 2 rfl) ?_
  refine lv_iload_n hx hb (show decode cL_share 3 = .ok (.iload_n 3, 1) by decide +kernel) rfl (lv_at hl 3 rfl) ?_
  refine lv_iload hx hb (show decode cL_share 4 = .ok (.iload 4, 2) by decide +kernel) (lv_at hl 4 rfl) ?_
  refine lv_iload hx hb (show decode cL_share 6 = .ok (.iload 5, 2) by decide +kernel) (lv_at hl 5 rfl) ?_
  rcases h with ⟨hF, rfl⟩ | ⟨k, hF, rfl, hne⟩
  · refine la_V1 (idx := 23) (f := 0) (n := 5) (rr := .inl none) (g' := g1) (rest := []) [.inl x1, .inl x2, .inl x3, .inl x4, .inl x5] hX hl.1 ⟨kX6_share l hl0, lt_520, lt_523, lt_60, by decide +kernel, by decide +kernel, by decide⟩ (show decode cL_share 8 = .ok (.invokevirtual 23, 3) by decide +kernel) lt_521 lt_522 (by decide) rfl rfl rfl rfl rfl (Nat.le_of_ble_eq_true rfl) ⟨Nat.le_refl _, Nat.le_refl _⟩ hP va_S.rf (show am_M tX6_share 9 [.inr (.inr (0, 0)), .inl x1, .inl x2, .inl x3, .inl x4, .inl x5] g = some (.inl none, g1) from hF) (fun z hz H1 locs1 hP1 hS1 => ?_) (fun k hk => by cases hk)
    cases hz
    refine lv_goto (tgt := 26) hx hb (show decode cL_share 11 = .ok (.goto 15, 3) by decide +kernel) (by decide) ?_
    refine lv_iconst (v := 0) hx hb (show decode cL_share 26 = .ok (.iconst 0, 1) by decide +kernel) (by decide) ?_
    exact la_ret hX B.returns B.notSynchronized (show decode cL_share 27 = .ok (.ireturn, 1) by decide +kernel) hP1 hS1
  · refine la_V1 (idx := 23) (f := 0) (n := 5) (rr := .inr k) (g' := g1) (rest := []) [.inl x1, .inl x2, .inl x3, .inl x4, .inl x5] hX hl.1 ⟨kX6_share l hl0, lt_520, lt_523, lt_60, by decide +kernel, by decide +kernel, by decide⟩ (show decode cL_share 8 = .ok (.invokevirtual 23, 3) by decide +kernel) lt_521 lt_522 (by decide) rfl rfl rfl rfl rfl (Nat.le_of_ble_eq_true rfl) ⟨Nat.le_refl _, Nat.le_refl _⟩ hP va_S.rf (show am_M tX6_share 9 [.inr (.inr (0, 0)), .inl x1, .inl x2, .inl x3, .inl x4, .inl x5] g = some (.inr k, g1) from hF) (fun z hz => by cases hz) (fun k9 hk9 H1 locs1 q ce hP1 hS1 hce hcv hcl => ?_)
    cases hk9
    rcases th_123_c hne with ⟨rfl, hv⟩ | ⟨rfl, hv⟩ | ⟨rfl, hv⟩
    · rw [hv]
      refine la_catch (k := 1) hX hnc htb [] (0, 11, 14, 19) [(0, 11, 18, 21), (0, 11, 22, 13)] rfl (by decide) (by decide) lt_451 (by decide) (fun _ hz => absurd hz List.not_mem_nil) hce hcv hcl ?_
      refine lv_astore (x := q) hx hb (show decode cL_share 14 = .ok (.astore 6, 2) by decide +kernel) hl (by decide) rfl (fun ls hl => ?_)
      refine lv_iconst (v := 1) hx hb (show decode cL_share 16 = .ok (.iconst 1, 1) by decide +kernel) (by decide) ?_
      exact la_ret hX B.returns B.notSynchronized (show decode cL_share 17 = .ok (.ireturn, 1) by decide +kernel) hP1 hS1
    · rw [hv]
      refine la_catch (k := 2) hX hnc htb [(0, 11, 14, 19)] (0, 11, 18, 21) [(0, 11, 22, 13)] rfl (by decide) (by decide) lt_452 (by decide) (List.forall_mem_cons.mpr ⟨⟨by decide, "java/lang/IndexOutOfBoundsException", by decide, by decide, lt_451⟩, fun _ hz => absurd hz List.not_mem_nil⟩) hce hcv hcl ?_
      refine lv_astore (x := q) hx hb (show decode cL_share 18 = .ok (.astore 6, 2) by decide +kernel) hl (by decide) rfl (fun ls hl => ?_)
      refine lv_iconst (v := 2) hx hb (show decode cL_share 20 = .ok (.iconst 2, 1) by decide +kernel) (by decide) ?_
      exact la_ret hX B.returns B.notSynchronized (show decode cL_share 21 = .ok (.ireturn, 1) by decide +kernel) hP1 hS1
    · rw [hv]
      refine la_catch (k := 3) hX hnc htb [(0, 11, 14, 19), (0, 11, 18, 21)] (0, 11, 22, 13) [] rfl (by decide) (by decide) lt_366 (by decide) (List.forall_mem_cons.mpr ⟨⟨by decide, "java/lang/IndexOutOfBoundsException", by decide, by decide, lt_451⟩, List.forall_mem_cons.mpr ⟨⟨by decide, "java/lang/IllegalArgumentException", by decide, by decide, lt_452⟩, fun _ hz => absurd hz List.not_mem_nil⟩⟩) hce hcv hcl ?_
      refine lv_astore (x := q) hx hb (show decode cL_share 22 = .ok (.astore 6, 2) by decide +kernel) hl (by decide) rfl (fun ls hl => ?_)
      refine lv_iconst (v := 3) hx hb (show decode cL_share 24 = .ok (.iconst 3, 1) by decide +kernel) (by decide) ?_
      exact la_ret hX B.returns B.notSynchronized (show decode cL_share 25 = .ok (.ireturn, 1) by decide +kernel) hP1 hS1
def rL_free : Room := { frames := 8, cells := 1, slots := 6, locals := 139 }
theorem wL_free {l : Launch} (hl0 : l.stackTraces = false) {x1 x2 x3 v : Int32} {g g1 : am_S} (h : la_wV th_123 (vX6_free x1 x2 x3 g) v g1) : la_Ct l yL_free cL_free 5 [(0, 7, 10, 19), (0, 7, 14, 21), (0, 7, 18, 13)] rL_free [.inr (.inr (0, 0)), .inl x1, .inl x2, .inl x3] g v g1 := by
  intro D cy o
  refine vx_ofWH (cc := cL_free) (maxL := 5) (ret := some .int) (hh := [(0, 7, 10, 19), (0, 7, 14, 21), (0, 7, 18, 13)]) (by decide +kernel) rfl ?_
  intro p e s m args below meth c s₁ B hml hv
  obtain ⟨rfl, ⟨hK, hxt, hZ, hP⟩, hnc⟩ := hv
  have hts0 := atoms_spec (ws := Cond.codeWith yL_free cL_free 5 (some .int) [(0, 7, 10, 19), (0, 7, 14, 21), (0, 7, 18, 13)] :: am_TB) B.pre
  have htb := vx_table (x := yL_free) B (hts0 _ List.mem_cons_self)
  have hx := B.exec
  have hb := B.bytes
  have hX : la_X p s m _ c D cy o cL_free 5 "SheetKernelLaw" := ⟨hx, hb, hml, findClass_of_methodNamed B.named, fun w hw => hts0 w (List.mem_cons_of_mem _ hw), hK, hxt, hZ⟩
  have hl9 := lv_entry (List.map (am_cv o) [.inr (.inr (0, 0)), .inl x1, .inl x2, .inl x3]) (n := 5) (by rw [am_sl_len]; exact Nat.le_of_ble_eq_true rfl)
  rw [lg_entry_eq]
  refine la_go (lv := [(0, .ref (o + am_ad 0 0)), (1, .int x1), (2, .int x2), (3, .int x3)]) hl9 (fun ls hl => ?_)
  show W p l e rL_free s m _ below meth c s.heap [] 0 0 _ _
  refine lv_aload_n hx hb (show decode cL_free 0 = .ok (.aload_n 0, 1) by decide +kernel) rfl (lv_at hl 0 rfl) ?_
  refine lv_iload_n hx hb (show decode cL_free 1 = .ok (.iload_n 1, 1) by decide +kernel) rfl (lv_at hl 1 rfl) ?_
  refine lv_iload_n hx hb (show decode cL_free 2 = .ok (.iload_n 2, 1) by decide +kernel) rfl (lv_at hl 2 rfl) ?_
  refine lv_iload_n hx hb (show decode cL_free 3 = .ok (.iload_n 3, 1) by decide +kernel) rfl (lv_at hl 3 rfl) ?_
  rcases h with ⟨hF, rfl⟩ | ⟨k, hF, rfl, hne⟩
  · refine la_V1 (idx := 27) (f := 0) (n := 3) (rr := .inl none) (g' := g1) (rest := []) [.inl x1, .inl x2, .inl x3] hX hl.1 ⟨kX6_free l hl0, lt_542, lt_545, lt_60, by decide +kernel, by decide +kernel, by decide⟩ (show decode cL_free 4 = .ok (.invokevirtual 27, 3) by decide +kernel) lt_543 lt_544 (by decide) rfl rfl rfl rfl rfl (Nat.le_of_ble_eq_true rfl) ⟨Nat.le_refl _, Nat.le_refl _⟩ hP va_S.rf (show am_M tX6_free 6 [.inr (.inr (0, 0)), .inl x1, .inl x2, .inl x3] g = some (.inl none, g1) from hF) (fun z hz H1 locs1 hP1 hS1 => ?_) (fun k hk => by cases hk)
    cases hz
    refine lv_goto (tgt := 22) hx hb (show decode cL_free 7 = .ok (.goto 15, 3) by decide +kernel) (by decide) ?_
    refine lv_iconst (v := 0) hx hb (show decode cL_free 22 = .ok (.iconst 0, 1) by decide +kernel) (by decide) ?_
    exact la_ret hX B.returns B.notSynchronized (show decode cL_free 23 = .ok (.ireturn, 1) by decide +kernel) hP1 hS1
  · refine la_V1 (idx := 27) (f := 0) (n := 3) (rr := .inr k) (g' := g1) (rest := []) [.inl x1, .inl x2, .inl x3] hX hl.1 ⟨kX6_free l hl0, lt_542, lt_545, lt_60, by decide +kernel, by decide +kernel, by decide⟩ (show decode cL_free 4 = .ok (.invokevirtual 27, 3) by decide +kernel) lt_543 lt_544 (by decide) rfl rfl rfl rfl rfl (Nat.le_of_ble_eq_true rfl) ⟨Nat.le_refl _, Nat.le_refl _⟩ hP va_S.rf (show am_M tX6_free 6 [.inr (.inr (0, 0)), .inl x1, .inl x2, .inl x3] g = some (.inr k, g1) from hF) (fun z hz => by cases hz) (fun k9 hk9 H1 locs1 q ce hP1 hS1 hce hcv hcl => ?_)
    cases hk9
    rcases th_123_c hne with ⟨rfl, hv⟩ | ⟨rfl, hv⟩ | ⟨rfl, hv⟩
    · rw [hv]
      refine la_catch (k := 1) hX hnc htb [] (0, 7, 10, 19) [(0, 7, 14, 21), (0, 7, 18, 13)] rfl (by decide) (by decide) lt_451 (by decide) (fun _ hz => absurd hz List.not_mem_nil) hce hcv hcl ?_
      refine lv_astore (x := q) hx hb (show decode cL_free 10 = .ok (.astore 4, 2) by decide +kernel) hl (by decide) rfl (fun ls hl => ?_)
      refine lv_iconst (v := 1) hx hb (show decode cL_free 12 = .ok (.iconst 1, 1) by decide +kernel) (by decide) ?_
      exact la_ret hX B.returns B.notSynchronized (show decode cL_free 13 = .ok (.ireturn, 1) by decide +kernel) hP1 hS1
    · rw [hv]
      refine la_catch (k := 2) hX hnc htb [(0, 7, 10, 19)] (0, 7, 14, 21) [(0, 7, 18, 13)] rfl (by decide) (by decide) lt_452 (by decide) (List.forall_mem_cons.mpr ⟨⟨by decide, "java/lang/IndexOutOfBoundsException", by decide, by decide, lt_451⟩, fun _ hz => absurd hz List.not_mem_nil⟩) hce hcv hcl ?_
      refine lv_astore (x := q) hx hb (show decode cL_free 14 = .ok (.astore 4, 2) by decide +kernel) hl (by decide) rfl (fun ls hl => ?_)
      refine lv_iconst (v := 2) hx hb (show decode cL_free 16 = .ok (.iconst 2, 1) by decide +kernel) (by decide) ?_
      exact la_ret hX B.returns B.notSynchronized (show decode cL_free 17 = .ok (.ireturn, 1) by decide +kernel) hP1 hS1
    · rw [hv]
      refine la_catch (k := 3) hX hnc htb [(0, 7, 10, 19), (0, 7, 14, 21)] (0, 7, 18, 13) [] rfl (by decide) (by decide) lt_366 (by decide) (List.forall_mem_cons.mpr ⟨⟨by decide, "java/lang/IndexOutOfBoundsException", by decide, by decide, lt_451⟩, List.forall_mem_cons.mpr ⟨⟨by decide, "java/lang/IllegalArgumentException", by decide, by decide, lt_452⟩, fun _ hz => absurd hz List.not_mem_nil⟩⟩) hce hcv hcl ?_
      refine lv_astore (x := q) hx hb (show decode cL_free 18 = .ok (.astore 4, 2) by decide +kernel) hl (by decide) rfl (fun ls hl => ?_)
      refine lv_iconst (v := 3) hx hb (show decode cL_free 20 = .ok (.iconst 3, 1) by decide +kernel) (by decide) ?_
      exact la_ret hX B.returns B.notSynchronized (show decode cL_free 21 = .ok (.ireturn, 1) by decide +kernel) hP1 hS1
def rL_fork : Room := { frames := 8, cells := 1, slots := 6, locals := 133 }
theorem wL_fork {l : Launch} (hl0 : l.stackTraces = false) {x1 v : Int32} {g g1 : am_S} (h : la_wI th_13 (vX6_fork x1 g) v g1) : la_Ct l yL_fork cL_fork 4 [(0, 9, 12, 19), (0, 9, 15, 13)] rL_fork [.inr (.inr (0, 0)), .inl x1, .inr (.inr (45, 0))] g v g1 := by
  intro D cy o
  refine vx_ofWH (cc := cL_fork) (maxL := 4) (ret := some .int) (hh := [(0, 9, 12, 19), (0, 9, 15, 13)]) (by decide +kernel) rfl ?_
  intro p e s m args below meth c s₁ B hml hv
  obtain ⟨rfl, ⟨hK, hxt, hZ, hP⟩, hnc⟩ := hv
  have hts0 := atoms_spec (ws := Cond.codeWith yL_fork cL_fork 4 (some .int) [(0, 9, 12, 19), (0, 9, 15, 13)] :: am_TB) B.pre
  have htb := vx_table (x := yL_fork) B (hts0 _ List.mem_cons_self)
  have hx := B.exec
  have hb := B.bytes
  have hX : la_X p s m _ c D cy o cL_fork 4 "SheetKernelLaw" := ⟨hx, hb, hml, findClass_of_methodNamed B.named, fun w hw => hts0 w (List.mem_cons_of_mem _ hw), hK, hxt, hZ⟩
  have hl9 := lv_entry (List.map (am_cv o) [.inr (.inr (0, 0)), .inl x1, .inr (.inr (45, 0))]) (n := 4) (by rw [am_sl_len]; exact Nat.le_of_ble_eq_true rfl)
  rw [lg_entry_eq]
  refine la_go (lv := [(0, .ref (o + am_ad 0 0)), (1, .int x1), (2, .ref (o + am_ad 45 0))]) hl9 (fun ls hl => ?_)
  show W p l e rL_fork s m _ below meth c s.heap [] 0 0 _ _
  refine lv_aload_n hx hb (show decode cL_fork 0 = .ok (.aload_n 2, 1) by decide +kernel) rfl (lv_at hl 2 rfl) ?_
  refine lv_iconst (v := 0) hx hb (show decode cL_fork 1 = .ok (.iconst 0, 1) by decide +kernel) (by decide) ?_
  refine lv_aload_n hx hb (show decode cL_fork 2 = .ok (.aload_n 0, 1) by decide +kernel) rfl (lv_at hl 0 rfl) ?_
  refine lv_iload_n hx hb (show decode cL_fork 3 = .ok (.iload_n 1, 1) by decide +kernel) rfl (lv_at hl 1 rfl) ?_
  rcases h with ⟨w, gA, hF, rfl, rfl⟩ | ⟨k, hF, rfl, hne⟩
  · refine la_V1 (idx := 31) (f := 0) (n := 1) (rr := .inl (some (.inl w))) (g' := gA) (rest := [.int 0, .ref (o + am_ad 45 0)]) [.inl x1] hX hl.1 ⟨kX6_fork l hl0, lt_573, lt_576, lt_60, by decide +kernel, by decide +kernel, by decide⟩ (show decode cL_fork 4 = .ok (.invokevirtual 31, 3) by decide +kernel) lt_574 lt_575 (by decide) rfl rfl rfl rfl rfl (Nat.le_of_ble_eq_true rfl) ⟨Nat.le_refl _, Nat.le_refl _⟩ hP va_S.rf (show am_M tX6_fork 3 [.inr (.inr (0, 0)), .inl x1] g = some (.inl (some (.inl w)), gA) from hF) (fun z hz H1 locs1 hP1 hS1 => ?_) (fun k hk => by cases hk)
    cases hz
    refine lv_i2l (x := w) (v := w.toInt64) hx hb (show decode cL_fork 7 = .ok (.i2l, 1) by decide +kernel) rfl ?_
    refine la_out (w := w) hX hP1 hS1 (show decode cL_fork 8 = .ok (.lastore, 1) by decide +kernel) (fun H2 locs2 hP2 hS2 => ?_)
    refine lv_goto (tgt := 18) hx hb (show decode cL_fork 9 = .ok (.goto 9, 3) by decide +kernel) (by decide) ?_
    refine lv_iconst (v := 0) hx hb (show decode cL_fork 18 = .ok (.iconst 0, 1) by decide +kernel) (by decide) ?_
    exact la_ret hX B.returns B.notSynchronized (show decode cL_fork 19 = .ok (.ireturn, 1) by decide +kernel) hP2 hS2
  · refine la_V1 (idx := 31) (f := 0) (n := 1) (rr := .inr k) (g' := g1) (rest := [.int 0, .ref (o + am_ad 45 0)]) [.inl x1] hX hl.1 ⟨kX6_fork l hl0, lt_573, lt_576, lt_60, by decide +kernel, by decide +kernel, by decide⟩ (show decode cL_fork 4 = .ok (.invokevirtual 31, 3) by decide +kernel) lt_574 lt_575 (by decide) rfl rfl rfl rfl rfl (Nat.le_of_ble_eq_true rfl) ⟨Nat.le_refl _, Nat.le_refl _⟩ hP va_S.rf (show am_M tX6_fork 3 [.inr (.inr (0, 0)), .inl x1] g = some (.inr k, g1) from hF) (fun z hz => by cases hz) (fun k9 hk9 H1 locs1 q ce hP1 hS1 hce hcv hcl => ?_)
    cases hk9
    rcases th_13_c hne with ⟨rfl, hv⟩ | ⟨rfl, hv⟩
    · rw [hv]
      refine la_catch (k := 1) hX hnc htb [] (0, 9, 12, 19) [(0, 9, 15, 13)] rfl (by decide) (by decide) lt_451 (by decide) (fun _ hz => absurd hz List.not_mem_nil) hce hcv hcl ?_
      refine lv_astore_n (x := q) hx hb (show decode cL_fork 12 = .ok (.astore_n 3, 1) by decide +kernel) rfl hl (by decide) rfl (fun ls hl => ?_)
      refine lv_iconst (v := 1) hx hb (show decode cL_fork 13 = .ok (.iconst 1, 1) by decide +kernel) (by decide) ?_
      exact la_ret hX B.returns B.notSynchronized (show decode cL_fork 14 = .ok (.ireturn, 1) by decide +kernel) hP1 hS1
    · rw [hv]
      refine la_catch (k := 3) hX hnc htb [(0, 9, 12, 19)] (0, 9, 15, 13) [] rfl (by decide) (by decide) lt_366 (by decide) (List.forall_mem_cons.mpr ⟨⟨by decide, "java/lang/IndexOutOfBoundsException", by decide, by decide, lt_451⟩, fun _ hz => absurd hz List.not_mem_nil⟩) hce hcv hcl ?_
      refine lv_astore_n (x := q) hx hb (show decode cL_fork 15 = .ok (.astore_n 3, 1) by decide +kernel) rfl hl (by decide) rfl (fun ls hl => ?_)
      refine lv_iconst (v := 2) hx hb (show decode cL_fork 16 = .ok (.iconst 2, 1) by decide +kernel) (by decide) ?_
      exact la_ret hX B.returns B.notSynchronized (show decode cL_fork 17 = .ok (.ireturn, 1) by decide +kernel) hP1 hS1
def rL_exit : Room := { frames := 8, cells := 1, slots := 6, locals := 132 }
theorem wL_exit {l : Launch} (hl0 : l.stackTraces = false) {x1 v : Int32} {g g1 : am_S} (h : la_wV th_1 (vX6_exit x1 g) v g1) : la_Ct l yL_exit cL_exit 3 [(0, 5, 8, 19)] rL_exit [.inr (.inr (0, 0)), .inl x1] g v g1 := by
  intro D cy o
  refine vx_ofWH (cc := cL_exit) (maxL := 3) (ret := some .int) (hh := [(0, 5, 8, 19)]) (by decide +kernel) rfl ?_
  intro p e s m args below meth c s₁ B hml hv
  obtain ⟨rfl, ⟨hK, hxt, hZ, hP⟩, hnc⟩ := hv
  have hts0 := atoms_spec (ws := Cond.codeWith yL_exit cL_exit 3 (some .int) [(0, 5, 8, 19)] :: am_TB) B.pre
  have htb := vx_table (x := yL_exit) B (hts0 _ List.mem_cons_self)
  have hx := B.exec
  have hb := B.bytes
  have hX : la_X p s m _ c D cy o cL_exit 3 "SheetKernelLaw" := ⟨hx, hb, hml, findClass_of_methodNamed B.named, fun w hw => hts0 w (List.mem_cons_of_mem _ hw), hK, hxt, hZ⟩
  have hl9 := lv_entry (List.map (am_cv o) [.inr (.inr (0, 0)), .inl x1]) (n := 3) (by rw [am_sl_len]; exact Nat.le_of_ble_eq_true rfl)
  rw [lg_entry_eq]
  refine la_go (lv := [(0, .ref (o + am_ad 0 0)), (1, .int x1)]) hl9 (fun ls hl => ?_)
  show W p l e rL_exit s m _ below meth c s.heap [] 0 0 _ _
  refine lv_aload_n hx hb (show decode cL_exit 0 = .ok (.aload_n 0, 1) by decide +kernel) rfl (lv_at hl 0 rfl) ?_
  refine lv_iload_n hx hb (show decode cL_exit 1 = .ok (.iload_n 1, 1) by decide +kernel) rfl (lv_at hl 1 rfl) ?_
  rcases h with ⟨hF, rfl⟩ | ⟨k, hF, rfl, hne⟩
  · refine la_V1 (idx := 35) (f := 0) (n := 1) (rr := .inl none) (g' := g1) (rest := []) [.inl x1] hX hl.1 ⟨kX6_exit l hl0, lt_585, lt_588, lt_60, by decide +kernel, by decide +kernel, by decide⟩ (show decode cL_exit 2 = .ok (.invokevirtual 35, 3) by decide +kernel) lt_586 lt_587 (by decide) rfl rfl rfl rfl rfl (Nat.le_of_ble_eq_true rfl) ⟨Nat.le_refl _, Nat.le_refl _⟩ hP va_S.rf (show am_M tX6_exit 2 [.inr (.inr (0, 0)), .inl x1] g = some (.inl none, g1) from hF) (fun z hz H1 locs1 hP1 hS1 => ?_) (fun k hk => by cases hk)
    cases hz
    refine lv_goto (tgt := 11) hx hb (show decode cL_exit 5 = .ok (.goto 6, 3) by decide +kernel) (by decide) ?_
    refine lv_iconst (v := 0) hx hb (show decode cL_exit 11 = .ok (.iconst 0, 1) by decide +kernel) (by decide) ?_
    exact la_ret hX B.returns B.notSynchronized (show decode cL_exit 12 = .ok (.ireturn, 1) by decide +kernel) hP1 hS1
  · refine la_V1 (idx := 35) (f := 0) (n := 1) (rr := .inr k) (g' := g1) (rest := []) [.inl x1] hX hl.1 ⟨kX6_exit l hl0, lt_585, lt_588, lt_60, by decide +kernel, by decide +kernel, by decide⟩ (show decode cL_exit 2 = .ok (.invokevirtual 35, 3) by decide +kernel) lt_586 lt_587 (by decide) rfl rfl rfl rfl rfl (Nat.le_of_ble_eq_true rfl) ⟨Nat.le_refl _, Nat.le_refl _⟩ hP va_S.rf (show am_M tX6_exit 2 [.inr (.inr (0, 0)), .inl x1] g = some (.inr k, g1) from hF) (fun z hz => by cases hz) (fun k9 hk9 H1 locs1 q ce hP1 hS1 hce hcv hcl => ?_)
    cases hk9
    obtain ⟨rfl, hv⟩ := th_1_c hne
    rw [hv]
    refine la_catch (k := 1) hX hnc htb [] (0, 5, 8, 19) [] rfl (by decide) (by decide) lt_451 (by decide) (fun _ hz => absurd hz List.not_mem_nil) hce hcv hcl ?_
    refine lv_astore_n (x := q) hx hb (show decode cL_exit 8 = .ok (.astore_n 2, 1) by decide +kernel) rfl hl (by decide) rfl (fun ls hl => ?_)
    refine lv_iconst (v := 1) hx hb (show decode cL_exit 9 = .ok (.iconst 1, 1) by decide +kernel) (by decide) ?_
    exact la_ret hX B.returns B.notSynchronized (show decode cL_exit 10 = .ok (.ireturn, 1) by decide +kernel) hP1 hS1
def rL_read : Room := { frames := 8, cells := 1, slots := 6, locals := 146 }
theorem wL_read {l : Launch} (hl0 : l.stackTraces = false) {x1 x2 v : Int32} {g g1 : am_S} (h : la_wI th_134 (vX6_read x1 x2 g) v g1) : la_Ct l yL_read cL_read 5 [(0, 10, 13, 19), (0, 10, 17, 13), (0, 10, 21, 43)] rL_read [.inr (.inr (0, 0)), .inl x1, .inl x2, .inr (.inr (45, 0))] g v g1 := by
  intro D cy o
  refine vx_ofWH (cc := cL_read) (maxL := 5) (ret := some .int) (hh := [(0, 10, 13, 19), (0, 10, 17, 13), (0, 10, 21, 43)]) (by decide +kernel) rfl ?_
  intro p e s m args below meth c s₁ B hml hv
  obtain ⟨rfl, ⟨hK, hxt, hZ, hP⟩, hnc⟩ := hv
  have hts0 := atoms_spec (ws := Cond.codeWith yL_read cL_read 5 (some .int) [(0, 10, 13, 19), (0, 10, 17, 13), (0, 10, 21, 43)] :: am_TB) B.pre
  have htb := vx_table (x := yL_read) B (hts0 _ List.mem_cons_self)
  have hx := B.exec
  have hb := B.bytes
  have hX : la_X p s m _ c D cy o cL_read 5 "SheetKernelLaw" := ⟨hx, hb, hml, findClass_of_methodNamed B.named, fun w hw => hts0 w (List.mem_cons_of_mem _ hw), hK, hxt, hZ⟩
  have hl9 := lv_entry (List.map (am_cv o) [.inr (.inr (0, 0)), .inl x1, .inl x2, .inr (.inr (45, 0))]) (n := 5) (by rw [am_sl_len]; exact Nat.le_of_ble_eq_true rfl)
  rw [lg_entry_eq]
  refine la_go (lv := [(0, .ref (o + am_ad 0 0)), (1, .int x1), (2, .int x2), (3, .ref (o + am_ad 45 0))]) hl9 (fun ls hl => ?_)
  show W p l e rL_read s m _ below meth c s.heap [] 0 0 _ _
  refine lv_aload_n hx hb (show decode cL_read 0 = .ok (.aload_n 3, 1) by decide +kernel) rfl (lv_at hl 3 rfl) ?_
  refine lv_iconst (v := 0) hx hb (show decode cL_read 1 = .ok (.iconst 0, 1) by decide +kernel) (by decide) ?_
  refine lv_aload_n hx hb (show decode cL_read 2 = .ok (.aload_n 0, 1) by decide +kernel) rfl (lv_at hl 0 rfl) ?_
  refine lv_iload_n hx hb (show decode cL_read 3 = .ok (.iload_n 1, 1) by decide +kernel) rfl (lv_at hl 1 rfl) ?_
  refine lv_iload_n hx hb (show decode cL_read 4 = .ok (.iload_n 2, 1) by decide +kernel) rfl (lv_at hl 2 rfl) ?_
  rcases h with ⟨w, gA, hF, rfl, rfl⟩ | ⟨k, hF, rfl, hne⟩
  · refine la_V1 (idx := 39) (f := 0) (n := 2) (rr := .inl (some (.inl w))) (g' := gA) (rest := [.int 0, .ref (o + am_ad 45 0)]) [.inl x1, .inl x2] hX hl.1 ⟨kX6_read l hl0, lt_597, lt_600, lt_60, by decide +kernel, by decide +kernel, by decide⟩ (show decode cL_read 5 = .ok (.invokevirtual 39, 3) by decide +kernel) lt_598 lt_599 (by decide) rfl rfl rfl rfl rfl (Nat.le_of_ble_eq_true rfl) ⟨Nat.le_refl _, Nat.le_refl _⟩ hP va_S.rf (show am_M tX6_read 5 [.inr (.inr (0, 0)), .inl x1, .inl x2] g = some (.inl (some (.inl w)), gA) from hF) (fun z hz H1 locs1 hP1 hS1 => ?_) (fun k hk => by cases hk)
    cases hz
    refine lv_i2l (x := w) (v := w.toInt64) hx hb (show decode cL_read 8 = .ok (.i2l, 1) by decide +kernel) rfl ?_
    refine la_out (w := w) hX hP1 hS1 (show decode cL_read 9 = .ok (.lastore, 1) by decide +kernel) (fun H2 locs2 hP2 hS2 => ?_)
    refine lv_goto (tgt := 25) hx hb (show decode cL_read 10 = .ok (.goto 15, 3) by decide +kernel) (by decide) ?_
    refine lv_iconst (v := 0) hx hb (show decode cL_read 25 = .ok (.iconst 0, 1) by decide +kernel) (by decide) ?_
    exact la_ret hX B.returns B.notSynchronized (show decode cL_read 26 = .ok (.ireturn, 1) by decide +kernel) hP2 hS2
  · refine la_V1 (idx := 39) (f := 0) (n := 2) (rr := .inr k) (g' := g1) (rest := [.int 0, .ref (o + am_ad 45 0)]) [.inl x1, .inl x2] hX hl.1 ⟨kX6_read l hl0, lt_597, lt_600, lt_60, by decide +kernel, by decide +kernel, by decide⟩ (show decode cL_read 5 = .ok (.invokevirtual 39, 3) by decide +kernel) lt_598 lt_599 (by decide) rfl rfl rfl rfl rfl (Nat.le_of_ble_eq_true rfl) ⟨Nat.le_refl _, Nat.le_refl _⟩ hP va_S.rf (show am_M tX6_read 5 [.inr (.inr (0, 0)), .inl x1, .inl x2] g = some (.inr k, g1) from hF) (fun z hz => by cases hz) (fun k9 hk9 H1 locs1 q ce hP1 hS1 hce hcv hcl => ?_)
    cases hk9
    rcases th_134_c hne with ⟨rfl, hv⟩ | ⟨rfl, hv⟩ | ⟨rfl, hv⟩
    · rw [hv]
      refine la_catch (k := 1) hX hnc htb [] (0, 10, 13, 19) [(0, 10, 17, 13), (0, 10, 21, 43)] rfl (by decide) (by decide) lt_451 (by decide) (fun _ hz => absurd hz List.not_mem_nil) hce hcv hcl ?_
      refine lv_astore (x := q) hx hb (show decode cL_read 13 = .ok (.astore 4, 2) by decide +kernel) hl (by decide) rfl (fun ls hl => ?_)
      refine lv_iconst (v := 1) hx hb (show decode cL_read 15 = .ok (.iconst 1, 1) by decide +kernel) (by decide) ?_
      exact la_ret hX B.returns B.notSynchronized (show decode cL_read 16 = .ok (.ireturn, 1) by decide +kernel) hP1 hS1
    · rw [hv]
      refine la_catch (k := 3) hX hnc htb [(0, 10, 13, 19)] (0, 10, 17, 13) [(0, 10, 21, 43)] rfl (by decide) (by decide) lt_366 (by decide) (List.forall_mem_cons.mpr ⟨⟨by decide, "java/lang/IndexOutOfBoundsException", by decide, by decide, lt_451⟩, fun _ hz => absurd hz List.not_mem_nil⟩) hce hcv hcl ?_
      refine lv_astore (x := q) hx hb (show decode cL_read 17 = .ok (.astore 4, 2) by decide +kernel) hl (by decide) rfl (fun ls hl => ?_)
      refine lv_iconst (v := 2) hx hb (show decode cL_read 19 = .ok (.iconst 2, 1) by decide +kernel) (by decide) ?_
      exact la_ret hX B.returns B.notSynchronized (show decode cL_read 20 = .ok (.ireturn, 1) by decide +kernel) hP1 hS1
    · rw [hv]
      refine la_catch (k := 4) hX hnc htb [(0, 10, 13, 19), (0, 10, 17, 13)] (0, 10, 21, 43) [] rfl (by decide) (by decide) lt_596 (by decide) (List.forall_mem_cons.mpr ⟨⟨by decide, "java/lang/IndexOutOfBoundsException", by decide, by decide, lt_451⟩, List.forall_mem_cons.mpr ⟨⟨by decide, "java/lang/IllegalStateException", by decide, by decide, lt_366⟩, fun _ hz => absurd hz List.not_mem_nil⟩⟩) hce hcv hcl ?_
      refine lv_astore (x := q) hx hb (show decode cL_read 21 = .ok (.astore 4, 2) by decide +kernel) hl (by decide) rfl (fun ls hl => ?_)
      refine lv_iconst (v := 3) hx hb (show decode cL_read 23 = .ok (.iconst 3, 1) by decide +kernel) (by decide) ?_
      exact la_ret hX B.returns B.notSynchronized (show decode cL_read 24 = .ok (.ireturn, 1) by decide +kernel) hP1 hS1
def rL_write : Room := { frames := 9, cells := 1, slots := 6, locals := 171 }
theorem wL_write {l : Launch} (hl0 : l.stackTraces = false) {x1 x2 x3 v : Int32} {g g1 : am_S} (h : la_wV th_134 (vX6_write x1 x2 x3 g) v g1) : la_Ct l yL_write cL_write 5 [(0, 7, 10, 19), (0, 7, 14, 13), (0, 7, 18, 43)] rL_write [.inr (.inr (0, 0)), .inl x1, .inl x2, .inl x3] g v g1 := by
  intro D cy o
  refine vx_ofWH (cc := cL_write) (maxL := 5) (ret := some .int) (hh := [(0, 7, 10, 19), (0, 7, 14, 13), (0, 7, 18, 43)]) (by decide +kernel) rfl ?_
  intro p e s m args below meth c s₁ B hml hv
  obtain ⟨rfl, ⟨hK, hxt, hZ, hP⟩, hnc⟩ := hv
  have hts0 := atoms_spec (ws := Cond.codeWith yL_write cL_write 5 (some .int) [(0, 7, 10, 19), (0, 7, 14, 13), (0, 7, 18, 43)] :: am_TB) B.pre
  have htb := vx_table (x := yL_write) B (hts0 _ List.mem_cons_self)
  have hx := B.exec
  have hb := B.bytes
  have hX : la_X p s m _ c D cy o cL_write 5 "SheetKernelLaw" := ⟨hx, hb, hml, findClass_of_methodNamed B.named, fun w hw => hts0 w (List.mem_cons_of_mem _ hw), hK, hxt, hZ⟩
  have hl9 := lv_entry (List.map (am_cv o) [.inr (.inr (0, 0)), .inl x1, .inl x2, .inl x3]) (n := 5) (by rw [am_sl_len]; exact Nat.le_of_ble_eq_true rfl)
  rw [lg_entry_eq]
  refine la_go (lv := [(0, .ref (o + am_ad 0 0)), (1, .int x1), (2, .int x2), (3, .int x3)]) hl9 (fun ls hl => ?_)
  show W p l e rL_write s m _ below meth c s.heap [] 0 0 _ _
  refine lv_aload_n hx hb (show decode cL_write 0 = .ok (.aload_n 0, 1) by decide +kernel) rfl (lv_at hl 0 rfl) ?_
  refine lv_iload_n hx hb (show decode cL_write 1 = .ok (.iload_n 1, 1) by decide +kernel) rfl (lv_at hl 1 rfl) ?_
  refine lv_iload_n hx hb (show decode cL_write 2 = .ok (.iload_n 2, 1) by decide +kernel) rfl (lv_at hl 2 rfl) ?_
  refine lv_iload_n hx hb (show decode cL_write 3 = .ok (.iload_n 3, 1) by decide +kernel) rfl (lv_at hl 3 rfl) ?_
  rcases h with ⟨hF, rfl⟩ | ⟨k, hF, rfl, hne⟩
  · refine la_V1 (idx := 45) (f := 0) (n := 3) (rr := .inl none) (g' := g1) (rest := []) [.inl x1, .inl x2, .inl x3] hX hl.1 ⟨kX6_write l hl0, lt_721, lt_724, lt_60, by decide +kernel, by decide +kernel, by decide⟩ (show decode cL_write 4 = .ok (.invokevirtual 45, 3) by decide +kernel) lt_722 lt_723 (by decide) rfl rfl rfl rfl rfl (Nat.le_of_ble_eq_true rfl) ⟨Nat.le_refl _, Nat.le_refl _⟩ hP va_S.rf (show am_M tX6_write 4 [.inr (.inr (0, 0)), .inl x1, .inl x2, .inl x3] g = some (.inl none, g1) from hF) (fun z hz H1 locs1 hP1 hS1 => ?_) (fun k hk => by cases hk)
    cases hz
    refine lv_goto (tgt := 22) hx hb (show decode cL_write 7 = .ok (.goto 15, 3) by decide +kernel) (by decide) ?_
    refine lv_iconst (v := 0) hx hb (show decode cL_write 22 = .ok (.iconst 0, 1) by decide +kernel) (by decide) ?_
    exact la_ret hX B.returns B.notSynchronized (show decode cL_write 23 = .ok (.ireturn, 1) by decide +kernel) hP1 hS1
  · refine la_V1 (idx := 45) (f := 0) (n := 3) (rr := .inr k) (g' := g1) (rest := []) [.inl x1, .inl x2, .inl x3] hX hl.1 ⟨kX6_write l hl0, lt_721, lt_724, lt_60, by decide +kernel, by decide +kernel, by decide⟩ (show decode cL_write 4 = .ok (.invokevirtual 45, 3) by decide +kernel) lt_722 lt_723 (by decide) rfl rfl rfl rfl rfl (Nat.le_of_ble_eq_true rfl) ⟨Nat.le_refl _, Nat.le_refl _⟩ hP va_S.rf (show am_M tX6_write 4 [.inr (.inr (0, 0)), .inl x1, .inl x2, .inl x3] g = some (.inr k, g1) from hF) (fun z hz => by cases hz) (fun k9 hk9 H1 locs1 q ce hP1 hS1 hce hcv hcl => ?_)
    cases hk9
    rcases th_134_c hne with ⟨rfl, hv⟩ | ⟨rfl, hv⟩ | ⟨rfl, hv⟩
    · rw [hv]
      refine la_catch (k := 1) hX hnc htb [] (0, 7, 10, 19) [(0, 7, 14, 13), (0, 7, 18, 43)] rfl (by decide) (by decide) lt_451 (by decide) (fun _ hz => absurd hz List.not_mem_nil) hce hcv hcl ?_
      refine lv_astore (x := q) hx hb (show decode cL_write 10 = .ok (.astore 4, 2) by decide +kernel) hl (by decide) rfl (fun ls hl => ?_)
      refine lv_iconst (v := 1) hx hb (show decode cL_write 12 = .ok (.iconst 1, 1) by decide +kernel) (by decide) ?_
      exact la_ret hX B.returns B.notSynchronized (show decode cL_write 13 = .ok (.ireturn, 1) by decide +kernel) hP1 hS1
    · rw [hv]
      refine la_catch (k := 3) hX hnc htb [(0, 7, 10, 19)] (0, 7, 14, 13) [(0, 7, 18, 43)] rfl (by decide) (by decide) lt_366 (by decide) (List.forall_mem_cons.mpr ⟨⟨by decide, "java/lang/IndexOutOfBoundsException", by decide, by decide, lt_451⟩, fun _ hz => absurd hz List.not_mem_nil⟩) hce hcv hcl ?_
      refine lv_astore (x := q) hx hb (show decode cL_write 14 = .ok (.astore 4, 2) by decide +kernel) hl (by decide) rfl (fun ls hl => ?_)
      refine lv_iconst (v := 2) hx hb (show decode cL_write 16 = .ok (.iconst 2, 1) by decide +kernel) (by decide) ?_
      exact la_ret hX B.returns B.notSynchronized (show decode cL_write 17 = .ok (.ireturn, 1) by decide +kernel) hP1 hS1
    · rw [hv]
      refine la_catch (k := 4) hX hnc htb [(0, 7, 10, 19), (0, 7, 14, 13)] (0, 7, 18, 43) [] rfl (by decide) (by decide) lt_596 (by decide) (List.forall_mem_cons.mpr ⟨⟨by decide, "java/lang/IndexOutOfBoundsException", by decide, by decide, lt_451⟩, List.forall_mem_cons.mpr ⟨⟨by decide, "java/lang/IllegalStateException", by decide, by decide, lt_366⟩, fun _ hz => absurd hz List.not_mem_nil⟩⟩) hce hcv hcl ?_
      refine lv_astore (x := q) hx hb (show decode cL_write 18 = .ok (.astore 4, 2) by decide +kernel) hl (by decide) rfl (fun ls hl => ?_)
      refine lv_iconst (v := 3) hx hb (show decode cL_write 20 = .ok (.iconst 3, 1) by decide +kernel) (by decide) ?_
      exact la_ret hX B.returns B.notSynchronized (show decode cL_write 21 = .ok (.ireturn, 1) by decide +kernel) hP1 hS1
def rL_load : Room := { frames := 9, cells := 1, slots := 6, locals := 171 }
theorem wL_load {l : Launch} (hl0 : l.stackTraces = false) {x1 x2 x3 v : Int32} {g g1 : am_S} (h : la_wV th_134 (vX6_load x1 x2 x3 g) v g1) : la_Ct l yL_load cL_load 5 [(0, 7, 10, 19), (0, 7, 14, 13), (0, 7, 18, 43)] rL_load [.inr (.inr (0, 0)), .inl x1, .inl x2, .inl x3] g v g1 := by
  intro D cy o
  refine vx_ofWH (cc := cL_load) (maxL := 5) (ret := some .int) (hh := [(0, 7, 10, 19), (0, 7, 14, 13), (0, 7, 18, 43)]) (by decide +kernel) rfl ?_
  intro p e s m args below meth c s₁ B hml hv
  obtain ⟨rfl, ⟨hK, hxt, hZ, hP⟩, hnc⟩ := hv
  have hts0 := atoms_spec (ws := Cond.codeWith yL_load cL_load 5 (some .int) [(0, 7, 10, 19), (0, 7, 14, 13), (0, 7, 18, 43)] :: am_TB) B.pre
  have htb := vx_table (x := yL_load) B (hts0 _ List.mem_cons_self)
  have hx := B.exec
  have hb := B.bytes
  have hX : la_X p s m _ c D cy o cL_load 5 "SheetKernelLaw" := ⟨hx, hb, hml, findClass_of_methodNamed B.named, fun w hw => hts0 w (List.mem_cons_of_mem _ hw), hK, hxt, hZ⟩
  have hl9 := lv_entry (List.map (am_cv o) [.inr (.inr (0, 0)), .inl x1, .inl x2, .inl x3]) (n := 5) (by rw [am_sl_len]; exact Nat.le_of_ble_eq_true rfl)
  rw [lg_entry_eq]
  refine la_go (lv := [(0, .ref (o + am_ad 0 0)), (1, .int x1), (2, .int x2), (3, .int x3)]) hl9 (fun ls hl => ?_)
  show W p l e rL_load s m _ below meth c s.heap [] 0 0 _ _
  refine lv_aload_n hx hb (show decode cL_load 0 = .ok (.aload_n 0, 1) by decide +kernel) rfl (lv_at hl 0 rfl) ?_
  refine lv_iload_n hx hb (show decode cL_load 1 = .ok (.iload_n 1, 1) by decide +kernel) rfl (lv_at hl 1 rfl) ?_
  refine lv_iload_n hx hb (show decode cL_load 2 = .ok (.iload_n 2, 1) by decide +kernel) rfl (lv_at hl 2 rfl) ?_
  refine lv_iload_n hx hb (show decode cL_load 3 = .ok (.iload_n 3, 1) by decide +kernel) rfl (lv_at hl 3 rfl) ?_
  rcases h with ⟨hF, rfl⟩ | ⟨k, hF, rfl, hne⟩
  · refine la_V1 (idx := 48) (f := 0) (n := 3) (rr := .inl none) (g' := g1) (rest := []) [.inl x1, .inl x2, .inl x3] hX hl.1 ⟨kX6_load l hl0, lt_732, lt_735, lt_60, by decide +kernel, by decide +kernel, by decide⟩ (show decode cL_load 4 = .ok (.invokevirtual 48, 3) by decide +kernel) lt_733 lt_734 (by decide) rfl rfl rfl rfl rfl (Nat.le_of_ble_eq_true rfl) ⟨Nat.le_refl _, Nat.le_refl _⟩ hP va_S.rf (show am_M tX6_load 4 [.inr (.inr (0, 0)), .inl x1, .inl x2, .inl x3] g = some (.inl none, g1) from hF) (fun z hz H1 locs1 hP1 hS1 => ?_) (fun k hk => by cases hk)
    cases hz
    refine lv_goto (tgt := 22) hx hb (show decode cL_load 7 = .ok (.goto 15, 3) by decide +kernel) (by decide) ?_
    refine lv_iconst (v := 0) hx hb (show decode cL_load 22 = .ok (.iconst 0, 1) by decide +kernel) (by decide) ?_
    exact la_ret hX B.returns B.notSynchronized (show decode cL_load 23 = .ok (.ireturn, 1) by decide +kernel) hP1 hS1
  · refine la_V1 (idx := 48) (f := 0) (n := 3) (rr := .inr k) (g' := g1) (rest := []) [.inl x1, .inl x2, .inl x3] hX hl.1 ⟨kX6_load l hl0, lt_732, lt_735, lt_60, by decide +kernel, by decide +kernel, by decide⟩ (show decode cL_load 4 = .ok (.invokevirtual 48, 3) by decide +kernel) lt_733 lt_734 (by decide) rfl rfl rfl rfl rfl (Nat.le_of_ble_eq_true rfl) ⟨Nat.le_refl _, Nat.le_refl _⟩ hP va_S.rf (show am_M tX6_load 4 [.inr (.inr (0, 0)), .inl x1, .inl x2, .inl x3] g = some (.inr k, g1) from hF) (fun z hz => by cases hz) (fun k9 hk9 H1 locs1 q ce hP1 hS1 hce hcv hcl => ?_)
    cases hk9
    rcases th_134_c hne with ⟨rfl, hv⟩ | ⟨rfl, hv⟩ | ⟨rfl, hv⟩
    · rw [hv]
      refine la_catch (k := 1) hX hnc htb [] (0, 7, 10, 19) [(0, 7, 14, 13), (0, 7, 18, 43)] rfl (by decide) (by decide) lt_451 (by decide) (fun _ hz => absurd hz List.not_mem_nil) hce hcv hcl ?_
      refine lv_astore (x := q) hx hb (show decode cL_load 10 = .ok (.astore 4, 2) by decide +kernel) hl (by decide) rfl (fun ls hl => ?_)
      refine lv_iconst (v := 1) hx hb (show decode cL_load 12 = .ok (.iconst 1, 1) by decide +kernel) (by decide) ?_
      exact la_ret hX B.returns B.notSynchronized (show decode cL_load 13 = .ok (.ireturn, 1) by decide +kernel) hP1 hS1
    · rw [hv]
      refine la_catch (k := 3) hX hnc htb [(0, 7, 10, 19)] (0, 7, 14, 13) [(0, 7, 18, 43)] rfl (by decide) (by decide) lt_366 (by decide) (List.forall_mem_cons.mpr ⟨⟨by decide, "java/lang/IndexOutOfBoundsException", by decide, by decide, lt_451⟩, fun _ hz => absurd hz List.not_mem_nil⟩) hce hcv hcl ?_
      refine lv_astore (x := q) hx hb (show decode cL_load 14 = .ok (.astore 4, 2) by decide +kernel) hl (by decide) rfl (fun ls hl => ?_)
      refine lv_iconst (v := 2) hx hb (show decode cL_load 16 = .ok (.iconst 2, 1) by decide +kernel) (by decide) ?_
      exact la_ret hX B.returns B.notSynchronized (show decode cL_load 17 = .ok (.ireturn, 1) by decide +kernel) hP1 hS1
    · rw [hv]
      refine la_catch (k := 4) hX hnc htb [(0, 7, 10, 19), (0, 7, 14, 13)] (0, 7, 18, 43) [] rfl (by decide) (by decide) lt_596 (by decide) (List.forall_mem_cons.mpr ⟨⟨by decide, "java/lang/IndexOutOfBoundsException", by decide, by decide, lt_451⟩, List.forall_mem_cons.mpr ⟨⟨by decide, "java/lang/IllegalStateException", by decide, by decide, lt_366⟩, fun _ hz => absurd hz List.not_mem_nil⟩⟩) hce hcv hcl ?_
      refine lv_astore (x := q) hx hb (show decode cL_load 18 = .ok (.astore 4, 2) by decide +kernel) hl (by decide) rfl (fun ls hl => ?_)
      refine lv_iconst (v := 3) hx hb (show decode cL_load 20 = .ok (.iconst 3, 1) by decide +kernel) (by decide) ?_
      exact la_ret hX B.returns B.notSynchronized (show decode cL_load 21 = .ok (.ireturn, 1) by decide +kernel) hP1 hS1
def rL_run : Room := { frames := 8, cells := 1, slots := 6, locals := 177 }
theorem wL_run {l : Launch} (hl0 : l.stackTraces = false) {x1 x2 v : Int32} {g g1 : am_S} (h : la_wI th_12 (vX6_run x1 x2 g) v g1) : la_Ct l yL_run cL_run 5 [(0, 10, 13, 19), (0, 10, 17, 21)] rL_run [.inr (.inr (0, 0)), .inl x1, .inl x2, .inr (.inr (45, 0))] g v g1 := by
  intro D cy o
  refine vx_ofWH (cc := cL_run) (maxL := 5) (ret := some .int) (hh := [(0, 10, 13, 19), (0, 10, 17, 21)]) (by decide +kernel) rfl ?_
  intro p e s m args below meth c s₁ B hml hv
  obtain ⟨rfl, ⟨hK, hxt, hZ, hP⟩, hnc⟩ := hv
  have hts0 := atoms_spec (ws := Cond.codeWith yL_run cL_run 5 (some .int) [(0, 10, 13, 19), (0, 10, 17, 21)] :: am_TB) B.pre
  have htb := vx_table (x := yL_run) B (hts0 _ List.mem_cons_self)
  have hx := B.exec
  have hb := B.bytes
  have hX : la_X p s m _ c D cy o cL_run 5 "SheetKernelLaw" := ⟨hx, hb, hml, findClass_of_methodNamed B.named, fun w hw => hts0 w (List.mem_cons_of_mem _ hw), hK, hxt, hZ⟩
  have hl9 := lv_entry (List.map (am_cv o) [.inr (.inr (0, 0)), .inl x1, .inl x2, .inr (.inr (45, 0))]) (n := 5) (by rw [am_sl_len]; exact Nat.le_of_ble_eq_true rfl)
  rw [lg_entry_eq]
  refine la_go (lv := [(0, .ref (o + am_ad 0 0)), (1, .int x1), (2, .int x2), (3, .ref (o + am_ad 45 0))]) hl9 (fun ls hl => ?_)
  show W p l e rL_run s m _ below meth c s.heap [] 0 0 _ _
  refine lv_aload_n hx hb (show decode cL_run 0 = .ok (.aload_n 3, 1) by decide +kernel) rfl (lv_at hl 3 rfl) ?_
  refine lv_iconst (v := 0) hx hb (show decode cL_run 1 = .ok (.iconst 0, 1) by decide +kernel) (by decide) ?_
  refine lv_aload_n hx hb (show decode cL_run 2 = .ok (.aload_n 0, 1) by decide +kernel) rfl (lv_at hl 0 rfl) ?_
  refine lv_iload_n hx hb (show decode cL_run 3 = .ok (.iload_n 1, 1) by decide +kernel) rfl (lv_at hl 1 rfl) ?_
  refine lv_iload_n hx hb (show decode cL_run 4 = .ok (.iload_n 2, 1) by decide +kernel) rfl (lv_at hl 2 rfl) ?_
  rcases h with ⟨w, gA, hF, rfl, rfl⟩ | ⟨k, hF, rfl, hne⟩
  · refine la_V1 (idx := 51) (f := 0) (n := 2) (rr := .inl (some (.inl w))) (g' := gA) (rest := [.int 0, .ref (o + am_ad 45 0)]) [.inl x1, .inl x2] hX hl.1 ⟨kX6_run l hl0, lt_739, lt_742, lt_60, by decide +kernel, by decide +kernel, by decide⟩ (show decode cL_run 5 = .ok (.invokevirtual 51, 3) by decide +kernel) lt_740 lt_741 (by decide) rfl rfl rfl rfl rfl (Nat.le_of_ble_eq_true rfl) ⟨Nat.le_refl _, Nat.le_refl _⟩ hP va_S.rf (show am_M tX6_run 7 [.inr (.inr (0, 0)), .inl x1, .inl x2] g = some (.inl (some (.inl w)), gA) from hF) (fun z hz H1 locs1 hP1 hS1 => ?_) (fun k hk => by cases hk)
    cases hz
    refine lv_i2l (x := w) (v := w.toInt64) hx hb (show decode cL_run 8 = .ok (.i2l, 1) by decide +kernel) rfl ?_
    refine la_out (w := w) hX hP1 hS1 (show decode cL_run 9 = .ok (.lastore, 1) by decide +kernel) (fun H2 locs2 hP2 hS2 => ?_)
    refine lv_goto (tgt := 21) hx hb (show decode cL_run 10 = .ok (.goto 11, 3) by decide +kernel) (by decide) ?_
    refine lv_iconst (v := 0) hx hb (show decode cL_run 21 = .ok (.iconst 0, 1) by decide +kernel) (by decide) ?_
    exact la_ret hX B.returns B.notSynchronized (show decode cL_run 22 = .ok (.ireturn, 1) by decide +kernel) hP2 hS2
  · refine la_V1 (idx := 51) (f := 0) (n := 2) (rr := .inr k) (g' := g1) (rest := [.int 0, .ref (o + am_ad 45 0)]) [.inl x1, .inl x2] hX hl.1 ⟨kX6_run l hl0, lt_739, lt_742, lt_60, by decide +kernel, by decide +kernel, by decide⟩ (show decode cL_run 5 = .ok (.invokevirtual 51, 3) by decide +kernel) lt_740 lt_741 (by decide) rfl rfl rfl rfl rfl (Nat.le_of_ble_eq_true rfl) ⟨Nat.le_refl _, Nat.le_refl _⟩ hP va_S.rf (show am_M tX6_run 7 [.inr (.inr (0, 0)), .inl x1, .inl x2] g = some (.inr k, g1) from hF) (fun z hz => by cases hz) (fun k9 hk9 H1 locs1 q ce hP1 hS1 hce hcv hcl => ?_)
    cases hk9
    rcases th_12_c hne with ⟨rfl, hv⟩ | ⟨rfl, hv⟩
    · rw [hv]
      refine la_catch (k := 1) hX hnc htb [] (0, 10, 13, 19) [(0, 10, 17, 21)] rfl (by decide) (by decide) lt_451 (by decide) (fun _ hz => absurd hz List.not_mem_nil) hce hcv hcl ?_
      refine lv_astore (x := q) hx hb (show decode cL_run 13 = .ok (.astore 4, 2) by decide +kernel) hl (by decide) rfl (fun ls hl => ?_)
      refine lv_iconst (v := 1) hx hb (show decode cL_run 15 = .ok (.iconst 1, 1) by decide +kernel) (by decide) ?_
      exact la_ret hX B.returns B.notSynchronized (show decode cL_run 16 = .ok (.ireturn, 1) by decide +kernel) hP1 hS1
    · rw [hv]
      refine la_catch (k := 2) hX hnc htb [(0, 10, 13, 19)] (0, 10, 17, 21) [] rfl (by decide) (by decide) lt_452 (by decide) (List.forall_mem_cons.mpr ⟨⟨by decide, "java/lang/IndexOutOfBoundsException", by decide, by decide, lt_451⟩, fun _ hz => absurd hz List.not_mem_nil⟩) hce hcv hcl ?_
      refine lv_astore (x := q) hx hb (show decode cL_run 17 = .ok (.astore 4, 2) by decide +kernel) hl (by decide) rfl (fun ls hl => ?_)
      refine lv_iconst (v := 2) hx hb (show decode cL_run 19 = .ok (.iconst 2, 1) by decide +kernel) (by decide) ?_
      exact la_ret hX B.returns B.notSynchronized (show decode cL_run 20 = .ok (.ireturn, 1) by decide +kernel) hP1 hS1
def rL_slot : Room := { frames := 7, cells := 1, slots := 6, locals := 112 }
theorem wL_slot {l : Launch} (hl0 : l.stackTraces = false) {x1 x2 v : Int32} {g g1 : am_S} (h : la_wV th_12 (vX6_slot x1 x2 g) v g1) : la_Ct l yL_slot cL_slot 4 [(0, 6, 9, 19), (0, 6, 12, 21)] rL_slot [.inr (.inr (0, 0)), .inl x1, .inl x2] g v g1 := by
  intro D cy o
  refine vx_ofWH (cc := cL_slot) (maxL := 4) (ret := some .int) (hh := [(0, 6, 9, 19), (0, 6, 12, 21)]) (by decide +kernel) rfl ?_
  intro p e s m args below meth c s₁ B hml hv
  obtain ⟨rfl, ⟨hK, hxt, hZ, hP⟩, hnc⟩ := hv
  have hts0 := atoms_spec (ws := Cond.codeWith yL_slot cL_slot 4 (some .int) [(0, 6, 9, 19), (0, 6, 12, 21)] :: am_TB) B.pre
  have htb := vx_table (x := yL_slot) B (hts0 _ List.mem_cons_self)
  have hx := B.exec
  have hb := B.bytes
  have hX : la_X p s m _ c D cy o cL_slot 4 "SheetKernelLaw" := ⟨hx, hb, hml, findClass_of_methodNamed B.named, fun w hw => hts0 w (List.mem_cons_of_mem _ hw), hK, hxt, hZ⟩
  have hl9 := lv_entry (List.map (am_cv o) [.inr (.inr (0, 0)), .inl x1, .inl x2]) (n := 4) (by rw [am_sl_len]; exact Nat.le_of_ble_eq_true rfl)
  rw [lg_entry_eq]
  refine la_go (lv := [(0, .ref (o + am_ad 0 0)), (1, .int x1), (2, .int x2)]) hl9 (fun ls hl => ?_)
  show W p l e rL_slot s m _ below meth c s.heap [] 0 0 _ _
  refine lv_aload_n hx hb (show decode cL_slot 0 = .ok (.aload_n 0, 1) by decide +kernel) rfl (lv_at hl 0 rfl) ?_
  refine lv_iload_n hx hb (show decode cL_slot 1 = .ok (.iload_n 1, 1) by decide +kernel) rfl (lv_at hl 1 rfl) ?_
  refine lv_iload_n hx hb (show decode cL_slot 2 = .ok (.iload_n 2, 1) by decide +kernel) rfl (lv_at hl 2 rfl) ?_
  rcases h with ⟨hF, rfl⟩ | ⟨k, hF, rfl, hne⟩
  · refine la_V1 (idx := 54) (f := 0) (n := 2) (rr := .inl none) (g' := g1) (rest := []) [.inl x1, .inl x2] hX hl.1 ⟨kX6_slot l hl0, lt_759, lt_762, lt_60, by decide +kernel, by decide +kernel, by decide⟩ (show decode cL_slot 3 = .ok (.invokevirtual 54, 3) by decide +kernel) lt_760 lt_761 (by decide) rfl rfl rfl rfl rfl (Nat.le_of_ble_eq_true rfl) ⟨Nat.le_refl _, Nat.le_refl _⟩ hP va_S.rf (show am_M tX6_slot 3 [.inr (.inr (0, 0)), .inl x1, .inl x2] g = some (.inl none, g1) from hF) (fun z hz H1 locs1 hP1 hS1 => ?_) (fun k hk => by cases hk)
    cases hz
    refine lv_goto (tgt := 15) hx hb (show decode cL_slot 6 = .ok (.goto 9, 3) by decide +kernel) (by decide) ?_
    refine lv_iconst (v := 0) hx hb (show decode cL_slot 15 = .ok (.iconst 0, 1) by decide +kernel) (by decide) ?_
    exact la_ret hX B.returns B.notSynchronized (show decode cL_slot 16 = .ok (.ireturn, 1) by decide +kernel) hP1 hS1
  · refine la_V1 (idx := 54) (f := 0) (n := 2) (rr := .inr k) (g' := g1) (rest := []) [.inl x1, .inl x2] hX hl.1 ⟨kX6_slot l hl0, lt_759, lt_762, lt_60, by decide +kernel, by decide +kernel, by decide⟩ (show decode cL_slot 3 = .ok (.invokevirtual 54, 3) by decide +kernel) lt_760 lt_761 (by decide) rfl rfl rfl rfl rfl (Nat.le_of_ble_eq_true rfl) ⟨Nat.le_refl _, Nat.le_refl _⟩ hP va_S.rf (show am_M tX6_slot 3 [.inr (.inr (0, 0)), .inl x1, .inl x2] g = some (.inr k, g1) from hF) (fun z hz => by cases hz) (fun k9 hk9 H1 locs1 q ce hP1 hS1 hce hcv hcl => ?_)
    cases hk9
    rcases th_12_c hne with ⟨rfl, hv⟩ | ⟨rfl, hv⟩
    · rw [hv]
      refine la_catch (k := 1) hX hnc htb [] (0, 6, 9, 19) [(0, 6, 12, 21)] rfl (by decide) (by decide) lt_451 (by decide) (fun _ hz => absurd hz List.not_mem_nil) hce hcv hcl ?_
      refine lv_astore_n (x := q) hx hb (show decode cL_slot 9 = .ok (.astore_n 3, 1) by decide +kernel) rfl hl (by decide) rfl (fun ls hl => ?_)
      refine lv_iconst (v := 1) hx hb (show decode cL_slot 10 = .ok (.iconst 1, 1) by decide +kernel) (by decide) ?_
      exact la_ret hX B.returns B.notSynchronized (show decode cL_slot 11 = .ok (.ireturn, 1) by decide +kernel) hP1 hS1
    · rw [hv]
      refine la_catch (k := 2) hX hnc htb [(0, 6, 9, 19)] (0, 6, 12, 21) [] rfl (by decide) (by decide) lt_452 (by decide) (List.forall_mem_cons.mpr ⟨⟨by decide, "java/lang/IndexOutOfBoundsException", by decide, by decide, lt_451⟩, fun _ hz => absurd hz List.not_mem_nil⟩) hce hcv hcl ?_
      refine lv_astore_n (x := q) hx hb (show decode cL_slot 12 = .ok (.astore_n 3, 1) by decide +kernel) rfl hl (by decide) rfl (fun ls hl => ?_)
      refine lv_iconst (v := 2) hx hb (show decode cL_slot 13 = .ok (.iconst 2, 1) by decide +kernel) (by decide) ?_
      exact la_ret hX B.returns B.notSynchronized (show decode cL_slot 14 = .ok (.ireturn, 1) by decide +kernel) hP1 hS1
def rL_valuable : Room := { frames := 8, cells := 1, slots := 6, locals := 133 }
theorem wL_valuable {l : Launch} (hl0 : l.stackTraces = false) {x1 x2 v : Int32} {g g1 : am_S} (h : la_wV th_1 (vX6_valuable x1 x2 g) v g1) : la_Ct l yL_valuable cL_valuable 4 [(0, 6, 9, 19)] rL_valuable [.inr (.inr (0, 0)), .inl x1, .inl x2] g v g1 := by
  intro D cy o
  refine vx_ofWH (cc := cL_valuable) (maxL := 4) (ret := some .int) (hh := [(0, 6, 9, 19)]) (by decide +kernel) rfl ?_
  intro p e s m args below meth c s₁ B hml hv
  obtain ⟨rfl, ⟨hK, hxt, hZ, hP⟩, hnc⟩ := hv
  have hts0 := atoms_spec (ws := Cond.codeWith yL_valuable cL_valuable 4 (some .int) [(0, 6, 9, 19)] :: am_TB) B.pre
  have htb := vx_table (x := yL_valuable) B (hts0 _ List.mem_cons_self)
  have hx := B.exec
  have hb := B.bytes
  have hX : la_X p s m _ c D cy o cL_valuable 4 "SheetKernelLaw" := ⟨hx, hb, hml, findClass_of_methodNamed B.named, fun w hw => hts0 w (List.mem_cons_of_mem _ hw), hK, hxt, hZ⟩
  have hl9 := lv_entry (List.map (am_cv o) [.inr (.inr (0, 0)), .inl x1, .inl x2]) (n := 4) (by rw [am_sl_len]; exact Nat.le_of_ble_eq_true rfl)
  rw [lg_entry_eq]
  refine la_go (lv := [(0, .ref (o + am_ad 0 0)), (1, .int x1), (2, .int x2)]) hl9 (fun ls hl => ?_)
  show W p l e rL_valuable s m _ below meth c s.heap [] 0 0 _ _
  refine lv_aload_n hx hb (show decode cL_valuable 0 = .ok (.aload_n 0, 1) by decide +kernel) rfl (lv_at hl 0 rfl) ?_
  refine lv_iload_n hx hb (show decode cL_valuable 1 = .ok (.iload_n 1, 1) by decide +kernel) rfl (lv_at hl 1 rfl) ?_
  refine lv_iload_n hx hb (show decode cL_valuable 2 = .ok (.iload_n 2, 1) by decide +kernel) rfl (lv_at hl 2 rfl) ?_
  rcases h with ⟨hF, rfl⟩ | ⟨k, hF, rfl, hne⟩
  · refine la_V1 (idx := 58) (f := 0) (n := 2) (rr := .inl none) (g' := g1) (rest := []) [.inl x1, .inl x2] hX hl.1 ⟨kX6_valuable l hl0, lt_772, lt_775, lt_60, by decide +kernel, by decide +kernel, by decide⟩ (show decode cL_valuable 3 = .ok (.invokevirtual 58, 3) by decide +kernel) lt_773 lt_774 (by decide) rfl rfl rfl rfl rfl (Nat.le_of_ble_eq_true rfl) ⟨Nat.le_refl _, Nat.le_refl _⟩ hP va_S.rf (show am_M tX6_valuable 3 [.inr (.inr (0, 0)), .inl x1, .inl x2] g = some (.inl none, g1) from hF) (fun z hz H1 locs1 hP1 hS1 => ?_) (fun k hk => by cases hk)
    cases hz
    refine lv_goto (tgt := 12) hx hb (show decode cL_valuable 6 = .ok (.goto 6, 3) by decide +kernel) (by decide) ?_
    refine lv_iconst (v := 0) hx hb (show decode cL_valuable 12 = .ok (.iconst 0, 1) by decide +kernel) (by decide) ?_
    exact la_ret hX B.returns B.notSynchronized (show decode cL_valuable 13 = .ok (.ireturn, 1) by decide +kernel) hP1 hS1
  · refine la_V1 (idx := 58) (f := 0) (n := 2) (rr := .inr k) (g' := g1) (rest := []) [.inl x1, .inl x2] hX hl.1 ⟨kX6_valuable l hl0, lt_772, lt_775, lt_60, by decide +kernel, by decide +kernel, by decide⟩ (show decode cL_valuable 3 = .ok (.invokevirtual 58, 3) by decide +kernel) lt_773 lt_774 (by decide) rfl rfl rfl rfl rfl (Nat.le_of_ble_eq_true rfl) ⟨Nat.le_refl _, Nat.le_refl _⟩ hP va_S.rf (show am_M tX6_valuable 3 [.inr (.inr (0, 0)), .inl x1, .inl x2] g = some (.inr k, g1) from hF) (fun z hz => by cases hz) (fun k9 hk9 H1 locs1 q ce hP1 hS1 hce hcv hcl => ?_)
    cases hk9
    obtain ⟨rfl, hv⟩ := th_1_c hne
    rw [hv]
    refine la_catch (k := 1) hX hnc htb [] (0, 6, 9, 19) [] rfl (by decide) (by decide) lt_451 (by decide) (fun _ hz => absurd hz List.not_mem_nil) hce hcv hcl ?_
    refine lv_astore_n (x := q) hx hb (show decode cL_valuable 9 = .ok (.astore_n 3, 1) by decide +kernel) rfl hl (by decide) rfl (fun ls hl => ?_)
    refine lv_iconst (v := 1) hx hb (show decode cL_valuable 10 = .ok (.iconst 1, 1) by decide +kernel) (by decide) ?_
    exact la_ret hX B.returns B.notSynchronized (show decode cL_valuable 11 = .ok (.ireturn, 1) by decide +kernel) hP1 hS1
