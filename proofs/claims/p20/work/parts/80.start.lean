/-! the law's entry -/
theorem lt_76 : (Jvm.Cond.instantiable "SheetKernel" (5 : Nat)) ∈ am_TB := am_tb 76 (by decide +kernel) (by decide +kernel)
theorem lt_777 : (Jvm.Cond.instantiable "SheetKernelModel" (22 : Nat)) ∈ am_TB := am_tb 777 (by decide +kernel) (by decide +kernel)
theorem lt_1056 : (Jvm.Cond.arrayClass Jvm.ClassFile.FieldType.long) ∈ am_TB := am_tb 1056 (by decide +kernel) (by decide +kernel)
/-- the words at the law's entry -/
theorem st_TB {s : State} {b : Nat} (hts : ∀ w ∈ lw_tbl, w.before #[Value.ref b] s = true) : ∀ w ∈ am_TB, w.before #[Value.ref b] s = true := fun w hw => hts w (List.mem_filter.mp hw).1
theorem st_arr {s : State} {args : Array Value} {ty : FieldType} (h : (Cond.arrayClass ty).before args s = true) : ∃ cA, ArrOfT s cA ty ∧ s.vm.findClass ("[" ++ ty.toString) = some cA := by
  obtain ⟨c, k, comp, h1, h2, h3⟩ := Cond.arrayClass_spec h
  exact ⟨c, fun n z => ⟨fun k h => (by cases h), k, h2, comp, h3⟩, h1⟩
theorem st_ovr {s : State} {args : Array Value} {C : String} (h : (Cond.arrayOver (.object C)).before args s = true) : ∃ cA, ArrOfT s cA (.object C) ∧ va_RA s cA (.object C) := by
  obtain ⟨comp, c, k, h1, h2, h3, h4, h5⟩ := Cond.arrayOver_spec h
  exact ⟨c, fun n z => ⟨fun k h => (by cases h), k, h3, comp, h4⟩, k, comp, h3, h4, h1, h5⟩
theorem st_K {s : State} {b : Nat} (hts : ∀ w ∈ lw_tbl, w.before #[Value.ref b] s = true) : ∃ (D : va_G) (cy : Nat → ClassId), va_K D vwCl (am_ty cy) s := by
  have hTB := st_TB hts
  obtain ⟨c0, i0, k0⟩ := u_known (C := RX0) (T := TX0) (N := 3) (n := 3) hTB iw0 (hTB _ lt_178)
  obtain ⟨c1, i1, k1⟩ := u_known (C := RX1) (T := TX1) (N := 4) (n := 4) hTB iw1 (hTB _ lt_195)
  obtain ⟨c2, i2, k2⟩ := u_known (C := RX2) (T := TX2) (N := 4) (n := 4) hTB iw2 (hTB _ lt_153)
  obtain ⟨c3, i3, k3⟩ := u_known (C := RX3) (T := TX3) (N := 8) (n := 8) hTB iw3 (hTB _ lt_93)
  obtain ⟨c4, i4, k4⟩ := u_known (C := RX4) (T := TX4) (N := 3) (n := 3) hTB iw4 (hTB _ lt_86)
  obtain ⟨c5, i5, k5⟩ := u_known (C := RX5) (T := TX5) (N := 8) (n := 8) hTB iw5 (hTB _ lt_216)
  obtain ⟨c6, i6, k6⟩ := u_known (C := RX6) (T := TX6) (N := 5) (n := 5) hTB iw6 (hTB _ lt_76)
  obtain ⟨c7, i7, k7⟩ := u_known (C := RX7) (T := TX7) (N := 22) (n := 22) hTB iw7 (hTB _ lt_777)
  obtain ⟨a0, x0, y0⟩ := st_arr (hTB _ lt_140)
  obtain ⟨a1, x1, y1⟩ := st_arr (hTB _ lt_176)
  obtain ⟨a4, x4, y4⟩ := st_arr (hTB _ lt_1056)
  obtain ⟨a2, x2, y2⟩ := st_ovr (hts _ (List.mem_of_getElem? (show lw_tbl[92]? = some (Cond.arrayOver (.object "SheetKernel$Sheet")) by decide +kernel)))
  obtain ⟨a3, x3, y3⟩ := st_ovr (hts _ (List.mem_of_getElem? (show lw_tbl[84]? = some (Cond.arrayOver (.object "SheetKernel$Task")) by decide +kernel)))
  refine ⟨(fun k => match k with | 0 => c0 | 1 => c1 | 2 => c2 | 3 => c3 | 4 => c4 | 5 => c5 | 6 => c6 | _ => c7, fun k => match k with | 0 => i0 | 1 => i1 | 2 => i2 | 3 => i3 | 4 => i4 | 5 => i5 | 6 => i6 | _ => i7), fun k => match k with | 0 => a0 | 1 => a1 | 2 => a2 | 3 => a3 | _ => a4, fun k q hq => ?_, fun k q hq => ?_⟩
  · match k, hq with
    | 0, hq => cases hq; exact k0
    | 1, hq => cases hq; exact k1
    | 2, hq => cases hq; exact k2
    | 3, hq => cases hq; exact k3
    | 4, hq => cases hq; exact k4
    | 5, hq => cases hq; exact k5
    | 6, hq => cases hq; exact k6
    | 7, hq => cases hq; exact k7
    | k + 8, hq => simp [vwCl] at hq
  · match k, hq with
    | 0, hq => cases hq; exact ⟨x0, y0⟩
    | 1, hq => cases hq; exact ⟨x1, y1⟩
    | 2, hq => cases hq; exact ⟨x2, y2⟩
    | 3, hq => cases hq; exact ⟨x3, y3⟩
    | 4, hq => cases hq; exact ⟨x4, y4⟩
    | k + 5, hq => simp [am_ty] at hq
theorem st_str {s : State} {b : Nat} (hgv : (Jvm.Cond.and given_1 narrow_1).before #[Value.ref b] s = true) (hts : ∀ w ∈ lw_tbl, w.before #[Value.ref b] s = true) {k : Nat} {tx : String} (h1 : Cond.stringRef "SheetKernel" k tx ∈ lw_tbl) (h2 : Cond.exactly (.string "SheetKernel" k) "java/lang/String" ∈ flatC (Jvm.Cond.and given_1 narrow_1)) : ∃ a, vk_R "SheetKernel" k tx a s := by
  have h3 := flat_of_before _ hgv _ h2
  obtain ⟨a, c, cell, k', h4, -⟩ := Cond.exactly_spec h3
  exact ⟨a, vk_R.of (hts _ h1) h4⟩
set_option maxRecDepth 100000 in
theorem st_xt {s : State} {b : Nat} (hgv : (Jvm.Cond.and given_1 narrow_1).before #[Value.ref b] s = true) (hts : ∀ w ∈ lw_tbl, w.before #[Value.ref b] s = true) : am_xt s := by
  refine ⟨?_, ?_, ?_⟩
  · exact List.forall_mem_cons.mpr ⟨va_Nw.of rfl (hts _ (List.mem_of_getElem? (show lw_tbl[463]? = some (Cond.castable "java/lang/IndexOutOfBoundsException" "java/lang/IndexOutOfBoundsException") by decide +kernel))), List.forall_mem_cons.mpr ⟨va_Nw.of rfl (hts _ (List.mem_of_getElem? (show lw_tbl[488]? = some (Cond.castable "java/lang/IllegalArgumentException" "java/lang/IllegalArgumentException") by decide +kernel))), List.forall_mem_cons.mpr ⟨va_Nw.of rfl (hts _ (List.mem_of_getElem? (show lw_tbl[377]? = some (Cond.castable "java/lang/IllegalStateException" "java/lang/IllegalStateException") by decide +kernel))), List.forall_mem_cons.mpr ⟨va_Nw.of rfl (hts _ (List.mem_of_getElem? (show lw_tbl[704]? = some (Cond.castable "java/lang/UnsupportedOperationException" "java/lang/UnsupportedOperationException") by decide +kernel))), fun _ h => absurd h List.not_mem_nil⟩⟩⟩⟩
  · exact List.forall_mem_cons.mpr ⟨va_Nw.of rfl (hts _ (List.mem_of_getElem? (show lw_tbl[379]? = some (Cond.declares ⟨"java/lang/RuntimeException", "<init>", "(Ljava/lang/String;)V"⟩) by decide +kernel))), List.forall_mem_cons.mpr ⟨va_Nw.of rfl (hts _ (List.mem_of_getElem? (show lw_tbl[381]? = some (Cond.declares ⟨"java/lang/Exception", "<init>", "(Ljava/lang/String;)V"⟩) by decide +kernel))), List.forall_mem_cons.mpr ⟨va_Nw.of rfl (hts _ (List.mem_of_getElem? (show lw_tbl[383]? = some (Cond.declares ⟨"java/lang/Throwable", "<init>", "(Ljava/lang/String;)V"⟩) by decide +kernel))), fun _ h => absurd h List.not_mem_nil⟩⟩⟩
  · exact List.forall_mem_cons.mpr ⟨st_str hgv hts (List.mem_of_getElem? (show lw_tbl[417]? = some (Cond.stringRef "SheetKernel" 50 "all processes live") by decide +kernel)) (by decide +kernel), List.forall_mem_cons.mpr ⟨st_str hgv hts (List.mem_of_getElem? (show lw_tbl[470]? = some (Cond.stringRef "SheetKernel" 255 "no such process lives") by decide +kernel)) (by decide +kernel), List.forall_mem_cons.mpr ⟨st_str hgv hts (List.mem_of_getElem? (show lw_tbl[481]? = some (Cond.stringRef "SheetKernel" 257 "no such page") by decide +kernel)) (by decide +kernel), List.forall_mem_cons.mpr ⟨st_str hgv hts (List.mem_of_getElem? (show lw_tbl[495]? = some (Cond.stringRef "SheetKernel" 261 "no such count") by decide +kernel)) (by decide +kernel), List.forall_mem_cons.mpr ⟨st_str hgv hts (List.mem_of_getElem? (show lw_tbl[502]? = some (Cond.stringRef "SheetKernel" 71 "no such kind") by decide +kernel)) (by decide +kernel), List.forall_mem_cons.mpr ⟨st_str hgv hts (List.mem_of_getElem? (show lw_tbl[507]? = some (Cond.stringRef "SheetKernel" 263 "no such pages") by decide +kernel)) (by decide +kernel), List.forall_mem_cons.mpr ⟨st_str hgv hts (List.mem_of_getElem? (show lw_tbl[508]? = some (Cond.stringRef "SheetKernel" 265 "a page is mapped") by decide +kernel)) (by decide +kernel), List.forall_mem_cons.mpr ⟨st_str hgv hts (List.mem_of_getElem? (show lw_tbl[532]? = some (Cond.stringRef "SheetKernel" 267 "a page is not mapped") by decide +kernel)) (by decide +kernel), List.forall_mem_cons.mpr ⟨st_str hgv hts (List.mem_of_getElem? (show lw_tbl[533]? = some (Cond.stringRef "SheetKernel" 269 "a page is not shared") by decide +kernel)) (by decide +kernel), List.forall_mem_cons.mpr ⟨st_str hgv hts (List.mem_of_getElem? (show lw_tbl[538]? = some (Cond.stringRef "SheetKernel" 93 "a sheet would have too many mappings") by decide +kernel)) (by decide +kernel), List.forall_mem_cons.mpr ⟨st_str hgv hts (List.mem_of_getElem? (show lw_tbl[581]? = some (Cond.stringRef "SheetKernel" 110 "there is no new process") by decide +kernel)) (by decide +kernel), List.forall_mem_cons.mpr ⟨st_str hgv hts (List.mem_of_getElem? (show lw_tbl[605]? = some (Cond.stringRef "SheetKernel" 259 "no such word") by decide +kernel)) (by decide +kernel), List.forall_mem_cons.mpr ⟨st_str hgv hts (List.mem_of_getElem? (show lw_tbl[701]? = some (Cond.stringRef "SheetKernel" 355 "the touch is refused") by decide +kernel)) (by decide +kernel), List.forall_mem_cons.mpr ⟨st_str hgv hts (List.mem_of_getElem? (show lw_tbl[711]? = some (Cond.stringRef "SheetKernel" 359 "the process ended") by decide +kernel)) (by decide +kernel), List.forall_mem_cons.mpr ⟨st_str hgv hts (List.mem_of_getElem? (show lw_tbl[743]? = some (Cond.stringRef "SheetKernel" 140 "no such number of steps") by decide +kernel)) (by decide +kernel), List.forall_mem_cons.mpr ⟨st_str hgv hts (List.mem_of_getElem? (show lw_tbl[763]? = some (Cond.stringRef "SheetKernel" 157 "no such slot") by decide +kernel)) (by decide +kernel), List.forall_mem_cons.mpr ⟨st_str hgv hts (List.mem_of_getElem? (show lw_tbl[764]? = some (Cond.stringRef "SheetKernel" 160 "no such how") by decide +kernel)) (by decide +kernel), fun _ h => absurd h List.not_mem_nil⟩⟩⟩⟩⟩⟩⟩⟩⟩⟩⟩⟩⟩⟩⟩⟩⟩
set_option maxRecDepth 100000 in
theorem st_nc {s : State} {b : Nat} (hgv : (Jvm.Cond.and given_1 narrow_1).before #[Value.ref b] s = true) : la_nc s := by
  have h : ∀ a ∈ am_exC, ∀ b ∈ am_exC, a ≠ b → Cond.not (.castable a b) ∈ flatC (Jvm.Cond.and given_1 narrow_1) := by decide +kernel
  intro a ha b hb hne
  exact va_Nc.of (flat_of_before _ hgv _ (h a ha b hb hne))
set_option maxRecDepth 100000 in
theorem st_Z {s : State} {b : Nat} (hgv : (Jvm.Cond.and given_1 narrow_1).before #[Value.ref b] s = true) (hts : ∀ w ∈ lw_tbl, w.before #[Value.ref b] s = true) : am_Z s.heap.size s s.heap := by
  refine ⟨vx_Zqof (args := #[Value.ref b]) (hts _ (by decide +kernel)) (hts _ (by decide +kernel)) (flat_of_before _ hgv _ (by decide +kernel)) (fun a h1 h2 => ?_), vx_Zqof (args := #[Value.ref b]) (hts _ (by decide +kernel)) (hts _ (by decide +kernel)) (flat_of_before _ hgv _ (by decide +kernel)) (fun a h1 h2 => ?_)⟩
  · exact absurd h1 (Nat.not_lt.mpr h2)
  · exact absurd h1 (Nat.not_lt.mpr h2)
theorem st_w {s : State} {b : Nat} (hts : ∀ w ∈ lw_tbl, w.before #[Value.ref b] s = true) : cw_w s := by
  refine ⟨va_AO.of (hts _ (List.mem_of_getElem? (show lw_tbl[92]? = some (Cond.arrayOver (.object "SheetKernel$Sheet")) by decide +kernel))), va_AO.of (hts _ (List.mem_of_getElem? (show lw_tbl[84]? = some (Cond.arrayOver (.object "SheetKernel$Task")) by decide +kernel))), ?_⟩
  have h : ∀ q ∈ cw_nest, Cond.methodLinkNest q.1 q.2.1 q.2.2 "SheetKernel" ∈ lw_tbl := by decide +kernel
  exact fun q hq => va_Nw.of rfl (hts _ (h q hq))
