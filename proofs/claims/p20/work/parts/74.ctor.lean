/-! constructors without calls (printed by gen/ctor.py) -/
theorem lt_81 : (Jvm.Cond.instanceMethod ({ cls := "java/lang/Object", name := "<init>", desc := "()V" } : Jvm.MethodName)) ∈ am_TB := am_tb 81 (by decide +kernel) (by decide +kernel)
theorem lt_82 : (Jvm.Cond.code ({ cls := "java/lang/Object", name := "<init>", desc := "()V" } : Jvm.MethodName) object_method_1_code (1 : Nat) (Option.none : Option Jvm.ClassFile.FieldType)) ∈ am_TB := am_tb 82 (by decide +kernel) (by decide +kernel)
theorem lt_97 : (Jvm.Cond.methodLink "SheetKernel$Sheet" (3 : Nat) ({ cls := "java/lang/Object", name := "<init>", desc := "()V" } : Jvm.MethodName)) ∈ am_TB := am_tb 97 (by decide +kernel) (by decide +kernel)
theorem lt_98 : (Jvm.Cond.fieldLink "SheetKernel$Sheet" (9 : Nat) "SheetKernel$Sheet" "words" "[I") ∈ am_TB := am_tb 98 (by decide +kernel) (by decide +kernel)
theorem lt_100 : (Jvm.Cond.fieldLink "SheetKernel$Sheet" (15 : Nat) "SheetKernel$Sheet" "mappings" "I") ∈ am_TB := am_tb 100 (by decide +kernel) (by decide +kernel)
theorem lt_103 : (Jvm.Cond.fieldLink "SheetKernel$Sheet" (19 : Nat) "SheetKernel$Sheet" "place" "I") ∈ am_TB := am_tb 103 (by decide +kernel) (by decide +kernel)
theorem lt_108 : (Jvm.Cond.fieldLink "SheetKernel$Sheet" (22 : Nat) "SheetKernel$Sheet" "at" "I") ∈ am_TB := am_tb 108 (by decide +kernel) (by decide +kernel)
theorem lt_112 : (Jvm.Cond.fieldLink "SheetKernel$Sheet" (25 : Nat) "SheetKernel$Sheet" "bytes" "I") ∈ am_TB := am_tb 112 (by decide +kernel) (by decide +kernel)
theorem lt_114 : (Jvm.Cond.fieldLink "SheetKernel$Sheet" (28 : Nat) "SheetKernel$Sheet" "lower" "I") ∈ am_TB := am_tb 114 (by decide +kernel) (by decide +kernel)
theorem lt_117 : (Jvm.Cond.fieldLink "SheetKernel$Sheet" (31 : Nat) "SheetKernel$Sheet" "upper" "I") ∈ am_TB := am_tb 117 (by decide +kernel) (by decide +kernel)
theorem lt_120 : (Jvm.Cond.fieldLink "SheetKernel$Sheet" (34 : Nat) "SheetKernel$Sheet" "seen" "I") ∈ am_TB := am_tb 120 (by decide +kernel) (by decide +kernel)
theorem lt_140 : (Jvm.Cond.arrayClass Jvm.ClassFile.FieldType.int) ∈ am_TB := am_tb 140 (by decide +kernel) (by decide +kernel)
theorem lt_157 : (Jvm.Cond.methodLink "SheetKernel$Frames" (3 : Nat) ({ cls := "java/lang/Object", name := "<init>", desc := "()V" } : Jvm.MethodName)) ∈ am_TB := am_tb 157 (by decide +kernel) (by decide +kernel)
theorem lt_158 : (Jvm.Cond.classLink "SheetKernel$Frames" (9 : Nat) "SheetKernel$Sheet") ∈ am_TB := am_tb 158 (by decide +kernel) (by decide +kernel)
theorem lt_159 : (Jvm.Cond.fieldLink "SheetKernel$Frames" (11 : Nat) "SheetKernel$Frames" "sheets" "[LSheetKernel$Sheet;") ∈ am_TB := am_tb 159 (by decide +kernel) (by decide +kernel)
theorem lt_161 : (Jvm.Cond.fieldLink "SheetKernel$Frames" (17 : Nat) "SheetKernel$Frames" "used" "[Z") ∈ am_TB := am_tb 161 (by decide +kernel) (by decide +kernel)
theorem lt_163 : (Jvm.Cond.fieldLink "SheetKernel$Frames" (21 : Nat) "SheetKernel$Frames" "changed" "[Z") ∈ am_TB := am_tb 163 (by decide +kernel) (by decide +kernel)
theorem lt_165 : (Jvm.Cond.fieldLink "SheetKernel$Frames" (24 : Nat) "SheetKernel$Frames" "hand" "I") ∈ am_TB := am_tb 165 (by decide +kernel) (by decide +kernel)
theorem lt_176 : (Jvm.Cond.arrayClass Jvm.ClassFile.FieldType.boolean) ∈ am_TB := am_tb 176 (by decide +kernel) (by decide +kernel)
theorem lt_182 : (Jvm.Cond.methodLink "SheetKernel$Arena" (3 : Nat) ({ cls := "java/lang/Object", name := "<init>", desc := "()V" } : Jvm.MethodName)) ∈ am_TB := am_tb 182 (by decide +kernel) (by decide +kernel)
theorem lt_183 : (Jvm.Cond.fieldLink "SheetKernel$Arena" (9 : Nat) "SheetKernel$Arena" "taken" "[Z") ∈ am_TB := am_tb 183 (by decide +kernel) (by decide +kernel)
theorem lt_184 : (Jvm.Cond.fieldLink "SheetKernel$Arena" (15 : Nat) "SheetKernel$Arena" "claims" "[I") ∈ am_TB := am_tb 184 (by decide +kernel) (by decide +kernel)
theorem lt_185 : (Jvm.Cond.fieldLink "SheetKernel$Arena" (19 : Nat) "SheetKernel$Arena" "packed" "I") ∈ am_TB := am_tb 185 (by decide +kernel) (by decide +kernel)
theorem lt_199 : (Jvm.Cond.methodLink "SheetKernel$Disk" (3 : Nat) ({ cls := "java/lang/Object", name := "<init>", desc := "()V" } : Jvm.MethodName)) ∈ am_TB := am_tb 199 (by decide +kernel) (by decide +kernel)
theorem lt_200 : (Jvm.Cond.fieldLink "SheetKernel$Disk" (9 : Nat) "SheetKernel$Disk" "state" "[I") ∈ am_TB := am_tb 200 (by decide +kernel) (by decide +kernel)
theorem lt_202 : (Jvm.Cond.fieldLink "SheetKernel$Disk" (15 : Nat) "SheetKernel$Disk" "fails" "[Z") ∈ am_TB := am_tb 202 (by decide +kernel) (by decide +kernel)
theorem lt_204 : (Jvm.Cond.fieldLink "SheetKernel$Disk" (19 : Nat) "SheetKernel$Disk" "lost" "[Z") ∈ am_TB := am_tb 204 (by decide +kernel) (by decide +kernel)
theorem lt_206 : (Jvm.Cond.fieldLink "SheetKernel$Disk" (22 : Nat) "SheetKernel$Disk" "claims" "[I") ∈ am_TB := am_tb 206 (by decide +kernel) (by decide +kernel)
theorem lt_220 : (Jvm.Cond.methodLink "SheetKernel$Task" (3 : Nat) ({ cls := "java/lang/Object", name := "<init>", desc := "()V" } : Jvm.MethodName)) ∈ am_TB := am_tb 220 (by decide +kernel) (by decide +kernel)
theorem lt_221 : (Jvm.Cond.classLink "SheetKernel$Task" (21 : Nat) "SheetKernel$Sheet") ∈ am_TB := am_tb 221 (by decide +kernel) (by decide +kernel)
theorem lt_222 : (Jvm.Cond.fieldLink "SheetKernel$Task" (9 : Nat) "SheetKernel$Task" "registers" "[I") ∈ am_TB := am_tb 222 (by decide +kernel) (by decide +kernel)
theorem lt_224 : (Jvm.Cond.fieldLink "SheetKernel$Task" (15 : Nat) "SheetKernel$Task" "faults" "[I") ∈ am_TB := am_tb 224 (by decide +kernel) (by decide +kernel)
theorem lt_226 : (Jvm.Cond.fieldLink "SheetKernel$Task" (18 : Nat) "SheetKernel$Task" "kinds" "[I") ∈ am_TB := am_tb 226 (by decide +kernel) (by decide +kernel)
theorem lt_228 : (Jvm.Cond.fieldLink "SheetKernel$Task" (23 : Nat) "SheetKernel$Task" "sheets" "[LSheetKernel$Sheet;") ∈ am_TB := am_tb 228 (by decide +kernel) (by decide +kernel)
theorem lt_230 : (Jvm.Cond.fieldLink "SheetKernel$Task" (27 : Nat) "SheetKernel$Task" "lives" "Z") ∈ am_TB := am_tb 230 (by decide +kernel) (by decide +kernel)
theorem lt_232 : (Jvm.Cond.fieldLink "SheetKernel$Task" (31 : Nat) "SheetKernel$Task" "valuable" "Z") ∈ am_TB := am_tb 232 (by decide +kernel) (by decide +kernel)
theorem lt_234 : (Jvm.Cond.fieldLink "SheetKernel$Task" (34 : Nat) "SheetKernel$Task" "counter" "I") ∈ am_TB := am_tb 234 (by decide +kernel) (by decide +kernel)
theorem lt_236 : (Jvm.Cond.fieldLink "SheetKernel$Task" (38 : Nat) "SheetKernel$Task" "reason" "I") ∈ am_TB := am_tb 236 (by decide +kernel) (by decide +kernel)
def rX0_init : Room := { frames := 1, cells := 2, slots := 128, locals := 12 }
theorem iX0 {l : Launch} {D : va_G} {cy : Nat → ClassId} {o a n : Nat} {w : Nat → va_E} (ha : a < n) (hwa : w a = .inr (0, [.null, .null, .int 0])) : cw_Ct l yX0_init cX0_init 1 rX0_init D cy o a n w (n + 1 + 1) (cw_up (cw_up (cw_up w (n) (.inl (cy 1, 64, .inl (fun _ => 0)))) (n + 1) (.inl (cy 0, 64, .inl (fun _ => 0)))) a (.inr (0, [.ref (o + (n)), .ref (o + (n + 1)), .int 0]))) 2 128 := by
  refine Met.ofW (cc := cX0_init) (maxL := 1) (ret := none) (by decide +kernel) rfl ?_
  intro p e s m args below meth c s₁ B hml hv
  obtain ⟨rfl, hK, hw9, hsz, hP⟩ := hv
  have hts0 := atoms_spec (ws := Cond.code yX0_init cX0_init 1 none :: am_TB) B.pre
  have hX : cw_X p s m _ c D cy cX0_init 1 "SheetKernel$Arena" := ⟨B.exec, B.bytes, hml, findClass_of_methodNamed B.named, fun w hw => hts0 w (List.mem_cons_of_mem _ hw), hK, hw9⟩
  have hx := B.exec
  have hb := B.bytes
  have hnam : meth.name = "<init>" := (name_of_methodNamed B.named B.method).1
  have hl9 := lv_entry ([.ref (o + a)]) (n := 1) (Nat.le_of_ble_eq_true rfl)
  rw [lg_entry_eq]
  refine la_go (lv := [(0, .ref (o + a))]) hl9 (fun ls hl => ?_)
  show W p l e rX0_init s m _ below meth c s.heap [] 0 0 _ _
  rw [← cw_up_id hwa] at hP
  have hS : va_S (am_A o) s.heap s.heap [] := va_S.rf
  refine lv_aload_n hx hb (show decode cX0_init 0 = .ok (.aload_n 0, 1) by decide +kernel) rfl (lv_at hl 0 rfl) ?_
  refine cw_obj hX hl.1 lt_182 lt_81 lt_82 (show decode cX0_init 1 = .ok (.invokespecial 3, 3) by decide +kernel) (by decide) (by decide) ?_
  refine lv_aload_n hx hb (show decode cX0_init 4 = .ok (.aload_n 0, 1) by decide +kernel) rfl (lv_at hl 0 rfl) ?_
  refine lv_bipush (v := 64) hx hb (show decode cX0_init 5 = .ok (.bipush 64, 2) by decide +kernel) (by decide) ?_
  refine cw_newa (atype := .boolean) (t0 := 1) (ty := .boolean) (N := 64) (a0 := (64, .inl (fun _ => 0))) (n := n) hX lt_176 rfl (fun C z => by cases z) rfl (fun _ => rfl) (by decide) (by decide) (by decide) (by omega) (by omega) (by decide) (by decide) (show decode cX0_init 7 = .ok (.newarray .boolean, 2) by decide +kernel) hP hS (fun H1 hP1 hS1 => ?_)
  rw [cw_up_comm (by omega)] at hP1
  have hP1 : va_P D vwCl (cw_l o (n + 1) (cw_up (cw_up w (n) (.inl (cy 1, 64, .inl (fun _ => 0)))) a (.inr (0, [.null, .null, .int 0])))) _ := hP1
  refine cw_putF (C := RX0) (T := TX0) (N := 3) (ci := 0) (k := 0) (a := a) (n := n + 1) (ty := tyX0 0) (v := .ref (o + (n))) hX hnam iw0 tyX0 tyX0_ok nmX0 rfl (by decide) lt_183 rfl rfl (tyX0_ok 0 (by decide)) rfl rfl (Nat.le_of_ble_eq_true rfl) (by omega) cw_up_at (show decode cX0_init 9 = .ok (.putfield 9, 3) by decide +kernel) hP1 hS1 (fun H2 locs2 hP2 hS2 => ?_)
  rw [cw_up_up] at hP2
  have hP2 : va_P D vwCl (cw_l o (n + 1) (cw_up (cw_up w (n) (.inl (cy 1, 64, .inl (fun _ => 0)))) a (.inr (0, [.ref (o + (n)), .null, .int 0])))) _ := hP2
  refine lv_aload_n hx hb (show decode cX0_init 12 = .ok (.aload_n 0, 1) by decide +kernel) rfl (lv_at hl 0 rfl) ?_
  refine lv_bipush (v := 64) hx hb (show decode cX0_init 13 = .ok (.bipush 64, 2) by decide +kernel) (by decide) ?_
  refine cw_newa (atype := .int) (t0 := 0) (ty := .int) (N := 64) (a0 := (64, .inl (fun _ => 0))) (n := n + 1) hX lt_140 rfl (fun C z => by cases z) rfl (fun _ => rfl) (by decide) (by decide) (by decide) (by omega) (by omega) (by decide) (by decide) (show decode cX0_init 15 = .ok (.newarray .int, 2) by decide +kernel) hP2 hS2 (fun H3 hP3 hS3 => ?_)
  rw [cw_up_comm (by omega)] at hP3
  have hP3 : va_P D vwCl (cw_l o (n + 1 + 1) (cw_up (cw_up (cw_up w (n) (.inl (cy 1, 64, .inl (fun _ => 0)))) (n + 1) (.inl (cy 0, 64, .inl (fun _ => 0)))) a (.inr (0, [.ref (o + (n)), .null, .int 0])))) _ := hP3
  refine cw_putF (C := RX0) (T := TX0) (N := 3) (ci := 0) (k := 1) (a := a) (n := n + 1 + 1) (ty := tyX0 1) (v := .ref (o + (n + 1))) hX hnam iw0 tyX0 tyX0_ok nmX0 rfl (by decide) lt_184 rfl rfl (tyX0_ok 1 (by decide)) rfl rfl (Nat.le_of_ble_eq_true rfl) (by omega) cw_up_at (show decode cX0_init 17 = .ok (.putfield 15, 3) by decide +kernel) hP3 hS3 (fun H4 locs4 hP4 hS4 => ?_)
  rw [cw_up_up] at hP4
  have hP4 : va_P D vwCl (cw_l o (n + 1 + 1) (cw_up (cw_up (cw_up w (n) (.inl (cy 1, 64, .inl (fun _ => 0)))) (n + 1) (.inl (cy 0, 64, .inl (fun _ => 0)))) a (.inr (0, [.ref (o + (n)), .ref (o + (n + 1)), .int 0])))) _ := hP4
  refine lv_aload_n hx hb (show decode cX0_init 20 = .ok (.aload_n 0, 1) by decide +kernel) rfl (lv_at hl 0 rfl) ?_
  refine lv_iconst (v := 0) hx hb (show decode cX0_init 21 = .ok (.iconst 0, 1) by decide +kernel) (by decide) ?_
  refine cw_put (C := RX0) (T := TX0) (N := 3) (ci := 0) (k := 2) (a := a) (n := n + 1 + 1) (ty := tyX0 2) (v := .int 0) hX iw0 tyX0 tyX0_ok nmX0 rfl (by decide) lt_185 rfl rfl (tyX0_ok 2 (by decide)) rfl rfl (Nat.le_of_ble_eq_true rfl) (by omega) cw_up_at (show decode cX0_init 22 = .ok (.putfield 19, 3) by decide +kernel) hP4 hS4 (fun H5 locs5 hP5 hS5 => ?_)
  rw [cw_up_up] at hP5
  have hP5 : va_P D vwCl (cw_l o (n + 1 + 1) (cw_up (cw_up (cw_up w (n) (.inl (cy 1, 64, .inl (fun _ => 0)))) (n + 1) (.inl (cy 0, 64, .inl (fun _ => 0)))) a (.inr (0, [.ref (o + (n)), .ref (o + (n + 1)), .int 0])))) _ := hP5
  exact W.vret hx hb B.returns (fun t ht hW => ⟨rfl, by rw [ht]; exact hP5, am_SF hS5 ht⟩) hS5.2.2 (show decode cX0_init 25 = .ok (.return_, 1) by decide +kernel) B.notSynchronized
def rX1_init : Room := { frames := 1, cells := 4, slots := 96, locals := 12 }
theorem iX1 {l : Launch} {D : va_G} {cy : Nat → ClassId} {o a n : Nat} {w : Nat → va_E} (ha : a < n) (hwa : w a = .inr (1, [.null, .null, .null, .null])) : cw_Ct l yX1_init cX1_init 1 rX1_init D cy o a n w (n + 1 + 1 + 1 + 1) (cw_up (cw_up (cw_up (cw_up (cw_up w (n) (.inl (cy 0, 24, .inl (fun _ => 0)))) (n + 1) (.inl (cy 1, 24, .inl (fun _ => 0)))) (n + 1 + 1) (.inl (cy 1, 24, .inl (fun _ => 0)))) (n + 1 + 1 + 1) (.inl (cy 0, 24, .inl (fun _ => 0)))) a (.inr (1, [.ref (o + (n)), .ref (o + (n + 1)), .ref (o + (n + 1 + 1)), .ref (o + (n + 1 + 1 + 1))]))) 4 96 := by
  refine Met.ofW (cc := cX1_init) (maxL := 1) (ret := none) (by decide +kernel) rfl ?_
  intro p e s m args below meth c s₁ B hml hv
  obtain ⟨rfl, hK, hw9, hsz, hP⟩ := hv
  have hts0 := atoms_spec (ws := Cond.code yX1_init cX1_init 1 none :: am_TB) B.pre
  have hX : cw_X p s m _ c D cy cX1_init 1 "SheetKernel$Disk" := ⟨B.exec, B.bytes, hml, findClass_of_methodNamed B.named, fun w hw => hts0 w (List.mem_cons_of_mem _ hw), hK, hw9⟩
  have hx := B.exec
  have hb := B.bytes
  have hnam : meth.name = "<init>" := (name_of_methodNamed B.named B.method).1
  have hl9 := lv_entry ([.ref (o + a)]) (n := 1) (Nat.le_of_ble_eq_true rfl)
  rw [lg_entry_eq]
  refine la_go (lv := [(0, .ref (o + a))]) hl9 (fun ls hl => ?_)
  show W p l e rX1_init s m _ below meth c s.heap [] 0 0 _ _
  rw [← cw_up_id hwa] at hP
  have hS : va_S (am_A o) s.heap s.heap [] := va_S.rf
  refine lv_aload_n hx hb (show decode cX1_init 0 = .ok (.aload_n 0, 1) by decide +kernel) rfl (lv_at hl 0 rfl) ?_
  refine cw_obj hX hl.1 lt_199 lt_81 lt_82 (show decode cX1_init 1 = .ok (.invokespecial 3, 3) by decide +kernel) (by decide) (by decide) ?_
  refine lv_aload_n hx hb (show decode cX1_init 4 = .ok (.aload_n 0, 1) by decide +kernel) rfl (lv_at hl 0 rfl) ?_
  refine lv_bipush (v := 24) hx hb (show decode cX1_init 5 = .ok (.bipush 24, 2) by decide +kernel) (by decide) ?_
  refine cw_newa (atype := .int) (t0 := 0) (ty := .int) (N := 24) (a0 := (24, .inl (fun _ => 0))) (n := n) hX lt_140 rfl (fun C z => by cases z) rfl (fun _ => rfl) (by decide) (by decide) (by decide) (by omega) (by omega) (by decide) (by decide) (show decode cX1_init 7 = .ok (.newarray .int, 2) by decide +kernel) hP hS (fun H1 hP1 hS1 => ?_)
  rw [cw_up_comm (by omega)] at hP1
  have hP1 : va_P D vwCl (cw_l o (n + 1) (cw_up (cw_up w (n) (.inl (cy 0, 24, .inl (fun _ => 0)))) a (.inr (1, [.null, .null, .null, .null])))) _ := hP1
  refine cw_putF (C := RX1) (T := TX1) (N := 4) (ci := 1) (k := 0) (a := a) (n := n + 1) (ty := tyX1 0) (v := .ref (o + (n))) hX hnam iw1 tyX1 tyX1_ok nmX1 rfl (by decide) lt_200 rfl rfl (tyX1_ok 0 (by decide)) rfl rfl (Nat.le_of_ble_eq_true rfl) (by omega) cw_up_at (show decode cX1_init 9 = .ok (.putfield 9, 3) by decide +kernel) hP1 hS1 (fun H2 locs2 hP2 hS2 => ?_)
  rw [cw_up_up] at hP2
  have hP2 : va_P D vwCl (cw_l o (n + 1) (cw_up (cw_up w (n) (.inl (cy 0, 24, .inl (fun _ => 0)))) a (.inr (1, [.ref (o + (n)), .null, .null, .null])))) _ := hP2
  refine lv_aload_n hx hb (show decode cX1_init 12 = .ok (.aload_n 0, 1) by decide +kernel) rfl (lv_at hl 0 rfl) ?_
  refine lv_bipush (v := 24) hx hb (show decode cX1_init 13 = .ok (.bipush 24, 2) by decide +kernel) (by decide) ?_
  refine cw_newa (atype := .boolean) (t0 := 1) (ty := .boolean) (N := 24) (a0 := (24, .inl (fun _ => 0))) (n := n + 1) hX lt_176 rfl (fun C z => by cases z) rfl (fun _ => rfl) (by decide) (by decide) (by decide) (by omega) (by omega) (by decide) (by decide) (show decode cX1_init 15 = .ok (.newarray .boolean, 2) by decide +kernel) hP2 hS2 (fun H3 hP3 hS3 => ?_)
  rw [cw_up_comm (by omega)] at hP3
  have hP3 : va_P D vwCl (cw_l o (n + 1 + 1) (cw_up (cw_up (cw_up w (n) (.inl (cy 0, 24, .inl (fun _ => 0)))) (n + 1) (.inl (cy 1, 24, .inl (fun _ => 0)))) a (.inr (1, [.ref (o + (n)), .null, .null, .null])))) _ := hP3
  refine cw_putF (C := RX1) (T := TX1) (N := 4) (ci := 1) (k := 1) (a := a) (n := n + 1 + 1) (ty := tyX1 1) (v := .ref (o + (n + 1))) hX hnam iw1 tyX1 tyX1_ok nmX1 rfl (by decide) lt_202 rfl rfl (tyX1_ok 1 (by decide)) rfl rfl (Nat.le_of_ble_eq_true rfl) (by omega) cw_up_at (show decode cX1_init 17 = .ok (.putfield 15, 3) by decide +kernel) hP3 hS3 (fun H4 locs4 hP4 hS4 => ?_)
  rw [cw_up_up] at hP4
  have hP4 : va_P D vwCl (cw_l o (n + 1 + 1) (cw_up (cw_up (cw_up w (n) (.inl (cy 0, 24, .inl (fun _ => 0)))) (n + 1) (.inl (cy 1, 24, .inl (fun _ => 0)))) a (.inr (1, [.ref (o + (n)), .ref (o + (n + 1)), .null, .null])))) _ := hP4
  refine lv_aload_n hx hb (show decode cX1_init 20 = .ok (.aload_n 0, 1) by decide +kernel) rfl (lv_at hl 0 rfl) ?_
  refine lv_bipush (v := 24) hx hb (show decode cX1_init 21 = .ok (.bipush 24, 2) by decide +kernel) (by decide) ?_
  refine cw_newa (atype := .boolean) (t0 := 1) (ty := .boolean) (N := 24) (a0 := (24, .inl (fun _ => 0))) (n := n + 1 + 1) hX lt_176 rfl (fun C z => by cases z) rfl (fun _ => rfl) (by decide) (by decide) (by decide) (by omega) (by omega) (by decide) (by decide) (show decode cX1_init 23 = .ok (.newarray .boolean, 2) by decide +kernel) hP4 hS4 (fun H5 hP5 hS5 => ?_)
  rw [cw_up_comm (by omega)] at hP5
  have hP5 : va_P D vwCl (cw_l o (n + 1 + 1 + 1) (cw_up (cw_up (cw_up (cw_up w (n) (.inl (cy 0, 24, .inl (fun _ => 0)))) (n + 1) (.inl (cy 1, 24, .inl (fun _ => 0)))) (n + 1 + 1) (.inl (cy 1, 24, .inl (fun _ => 0)))) a (.inr (1, [.ref (o + (n)), .ref (o + (n + 1)), .null, .null])))) _ := hP5
  refine cw_putF (C := RX1) (T := TX1) (N := 4) (ci := 1) (k := 2) (a := a) (n := n + 1 + 1 + 1) (ty := tyX1 2) (v := .ref (o + (n + 1 + 1))) hX hnam iw1 tyX1 tyX1_ok nmX1 rfl (by decide) lt_204 rfl rfl (tyX1_ok 2 (by decide)) rfl rfl (Nat.le_of_ble_eq_true rfl) (by omega) cw_up_at (show decode cX1_init 25 = .ok (.putfield 19, 3) by decide +kernel) hP5 hS5 (fun H6 locs6 hP6 hS6 => ?_)
  rw [cw_up_up] at hP6
  have hP6 : va_P D vwCl (cw_l o (n + 1 + 1 + 1) (cw_up (cw_up (cw_up (cw_up w (n) (.inl (cy 0, 24, .inl (fun _ => 0)))) (n + 1) (.inl (cy 1, 24, .inl (fun _ => 0)))) (n + 1 + 1) (.inl (cy 1, 24, .inl (fun _ => 0)))) a (.inr (1, [.ref (o + (n)), .ref (o + (n + 1)), .ref (o + (n + 1 + 1)), .null])))) _ := hP6
  refine lv_aload_n hx hb (show decode cX1_init 28 = .ok (.aload_n 0, 1) by decide +kernel) rfl (lv_at hl 0 rfl) ?_
  refine lv_bipush (v := 24) hx hb (show decode cX1_init 29 = .ok (.bipush 24, 2) by decide +kernel) (by decide) ?_
  refine cw_newa (atype := .int) (t0 := 0) (ty := .int) (N := 24) (a0 := (24, .inl (fun _ => 0))) (n := n + 1 + 1 + 1) hX lt_140 rfl (fun C z => by cases z) rfl (fun _ => rfl) (by decide) (by decide) (by decide) (by omega) (by omega) (by decide) (by decide) (show decode cX1_init 31 = .ok (.newarray .int, 2) by decide +kernel) hP6 hS6 (fun H7 hP7 hS7 => ?_)
  rw [cw_up_comm (by omega)] at hP7
  have hP7 : va_P D vwCl (cw_l o (n + 1 + 1 + 1 + 1) (cw_up (cw_up (cw_up (cw_up (cw_up w (n) (.inl (cy 0, 24, .inl (fun _ => 0)))) (n + 1) (.inl (cy 1, 24, .inl (fun _ => 0)))) (n + 1 + 1) (.inl (cy 1, 24, .inl (fun _ => 0)))) (n + 1 + 1 + 1) (.inl (cy 0, 24, .inl (fun _ => 0)))) a (.inr (1, [.ref (o + (n)), .ref (o + (n + 1)), .ref (o + (n + 1 + 1)), .null])))) _ := hP7
  refine cw_putF (C := RX1) (T := TX1) (N := 4) (ci := 1) (k := 3) (a := a) (n := n + 1 + 1 + 1 + 1) (ty := tyX1 3) (v := .ref (o + (n + 1 + 1 + 1))) hX hnam iw1 tyX1 tyX1_ok nmX1 rfl (by decide) lt_206 rfl rfl (tyX1_ok 3 (by decide)) rfl rfl (Nat.le_of_ble_eq_true rfl) (by omega) cw_up_at (show decode cX1_init 33 = .ok (.putfield 22, 3) by decide +kernel) hP7 hS7 (fun H8 locs8 hP8 hS8 => ?_)
  rw [cw_up_up] at hP8
  have hP8 : va_P D vwCl (cw_l o (n + 1 + 1 + 1 + 1) (cw_up (cw_up (cw_up (cw_up (cw_up w (n) (.inl (cy 0, 24, .inl (fun _ => 0)))) (n + 1) (.inl (cy 1, 24, .inl (fun _ => 0)))) (n + 1 + 1) (.inl (cy 1, 24, .inl (fun _ => 0)))) (n + 1 + 1 + 1) (.inl (cy 0, 24, .inl (fun _ => 0)))) a (.inr (1, [.ref (o + (n)), .ref (o + (n + 1)), .ref (o + (n + 1 + 1)), .ref (o + (n + 1 + 1 + 1))])))) _ := hP8
  exact W.vret hx hb B.returns (fun t ht hW => ⟨rfl, by rw [ht]; exact hP8, am_SF hS8 ht⟩) hS8.2.2 (show decode cX1_init 36 = .ok (.return_, 1) by decide +kernel) B.notSynchronized
def rX2_init : Room := { frames := 1, cells := 3, slots := 30, locals := 12 }
theorem iX2 {l : Launch} {D : va_G} {cy : Nat → ClassId} {o a n : Nat} {w : Nat → va_E} (ha : a < n) (hwa : w a = .inr (2, [.null, .null, .null, .int 0])) : cw_Ct l yX2_init cX2_init 1 rX2_init D cy o a n w (n + 1 + 1 + 1) (cw_up (cw_up (cw_up (cw_up w (n) (.inl (cy 2, 10, .inr (.inr (.inr (.inr (fun _ => none))))))) (n + 1) (.inl (cy 1, 10, .inl (fun _ => 0)))) (n + 1 + 1) (.inl (cy 1, 10, .inl (fun _ => 0)))) a (.inr (2, [.ref (o + (n)), .ref (o + (n + 1)), .ref (o + (n + 1 + 1)), .int 0]))) 3 30 := by
  refine Met.ofW (cc := cX2_init) (maxL := 1) (ret := none) (by decide +kernel) rfl ?_
  intro p e s m args below meth c s₁ B hml hv
  obtain ⟨rfl, hK, hw9, hsz, hP⟩ := hv
  have hts0 := atoms_spec (ws := Cond.code yX2_init cX2_init 1 none :: am_TB) B.pre
  have hX : cw_X p s m _ c D cy cX2_init 1 "SheetKernel$Frames" := ⟨B.exec, B.bytes, hml, findClass_of_methodNamed B.named, fun w hw => hts0 w (List.mem_cons_of_mem _ hw), hK, hw9⟩
  have hx := B.exec
  have hb := B.bytes
  have hnam : meth.name = "<init>" := (name_of_methodNamed B.named B.method).1
  have hl9 := lv_entry ([.ref (o + a)]) (n := 1) (Nat.le_of_ble_eq_true rfl)
  rw [lg_entry_eq]
  refine la_go (lv := [(0, .ref (o + a))]) hl9 (fun ls hl => ?_)
  show W p l e rX2_init s m _ below meth c s.heap [] 0 0 _ _
  rw [← cw_up_id hwa] at hP
  have hS : va_S (am_A o) s.heap s.heap [] := va_S.rf
  refine lv_aload_n hx hb (show decode cX2_init 0 = .ok (.aload_n 0, 1) by decide +kernel) rfl (lv_at hl 0 rfl) ?_
  refine cw_obj hX hl.1 lt_157 lt_81 lt_82 (show decode cX2_init 1 = .ok (.invokespecial 3, 3) by decide +kernel) (by decide) (by decide) ?_
  refine lv_aload_n hx hb (show decode cX2_init 4 = .ok (.aload_n 0, 1) by decide +kernel) rfl (lv_at hl 0 rfl) ?_
  refine lv_bipush (v := 10) hx hb (show decode cX2_init 5 = .ok (.bipush 10, 2) by decide +kernel) (by decide) ?_
  refine cw_newq (C := "SheetKernel$Sheet") (t0 := 2) (N := 10) (n := n) hX lt_158 hX.2.2.2.2.2.2.1 rfl (by decide) (by decide) (by decide) (by omega) (by omega) (by decide) (by decide) (show decode cX2_init 7 = .ok (.anewarray 9, 3) by decide +kernel) hP hS (fun H1 hP1 hS1 => ?_)
  rw [cw_up_comm (by omega)] at hP1
  have hP1 : va_P D vwCl (cw_l o (n + 1) (cw_up (cw_up w (n) (.inl (cy 2, 10, .inr (.inr (.inr (.inr (fun _ => none))))))) a (.inr (2, [.null, .null, .null, .int 0])))) _ := hP1
  refine cw_putF (C := RX2) (T := TX2) (N := 4) (ci := 2) (k := 0) (a := a) (n := n + 1) (ty := tyX2 0) (v := .ref (o + (n))) hX hnam iw2 tyX2 tyX2_ok nmX2 rfl (by decide) lt_159 rfl rfl (tyX2_ok 0 (by decide)) rfl rfl (Nat.le_of_ble_eq_true rfl) (by omega) cw_up_at (show decode cX2_init 10 = .ok (.putfield 11, 3) by decide +kernel) hP1 hS1 (fun H2 locs2 hP2 hS2 => ?_)
  rw [cw_up_up] at hP2
  have hP2 : va_P D vwCl (cw_l o (n + 1) (cw_up (cw_up w (n) (.inl (cy 2, 10, .inr (.inr (.inr (.inr (fun _ => none))))))) a (.inr (2, [.ref (o + (n)), .null, .null, .int 0])))) _ := hP2
  refine lv_aload_n hx hb (show decode cX2_init 13 = .ok (.aload_n 0, 1) by decide +kernel) rfl (lv_at hl 0 rfl) ?_
  refine lv_bipush (v := 10) hx hb (show decode cX2_init 14 = .ok (.bipush 10, 2) by decide +kernel) (by decide) ?_
  refine cw_newa (atype := .boolean) (t0 := 1) (ty := .boolean) (N := 10) (a0 := (10, .inl (fun _ => 0))) (n := n + 1) hX lt_176 rfl (fun C z => by cases z) rfl (fun _ => rfl) (by decide) (by decide) (by decide) (by omega) (by omega) (by decide) (by decide) (show decode cX2_init 16 = .ok (.newarray .boolean, 2) by decide +kernel) hP2 hS2 (fun H3 hP3 hS3 => ?_)
  rw [cw_up_comm (by omega)] at hP3
  have hP3 : va_P D vwCl (cw_l o (n + 1 + 1) (cw_up (cw_up (cw_up w (n) (.inl (cy 2, 10, .inr (.inr (.inr (.inr (fun _ => none))))))) (n + 1) (.inl (cy 1, 10, .inl (fun _ => 0)))) a (.inr (2, [.ref (o + (n)), .null, .null, .int 0])))) _ := hP3
  refine cw_putF (C := RX2) (T := TX2) (N := 4) (ci := 2) (k := 1) (a := a) (n := n + 1 + 1) (ty := tyX2 1) (v := .ref (o + (n + 1))) hX hnam iw2 tyX2 tyX2_ok nmX2 rfl (by decide) lt_161 rfl rfl (tyX2_ok 1 (by decide)) rfl rfl (Nat.le_of_ble_eq_true rfl) (by omega) cw_up_at (show decode cX2_init 18 = .ok (.putfield 17, 3) by decide +kernel) hP3 hS3 (fun H4 locs4 hP4 hS4 => ?_)
  rw [cw_up_up] at hP4
  have hP4 : va_P D vwCl (cw_l o (n + 1 + 1) (cw_up (cw_up (cw_up w (n) (.inl (cy 2, 10, .inr (.inr (.inr (.inr (fun _ => none))))))) (n + 1) (.inl (cy 1, 10, .inl (fun _ => 0)))) a (.inr (2, [.ref (o + (n)), .ref (o + (n + 1)), .null, .int 0])))) _ := hP4
  refine lv_aload_n hx hb (show decode cX2_init 21 = .ok (.aload_n 0, 1) by decide +kernel) rfl (lv_at hl 0 rfl) ?_
  refine lv_bipush (v := 10) hx hb (show decode cX2_init 22 = .ok (.bipush 10, 2) by decide +kernel) (by decide) ?_
  refine cw_newa (atype := .boolean) (t0 := 1) (ty := .boolean) (N := 10) (a0 := (10, .inl (fun _ => 0))) (n := n + 1 + 1) hX lt_176 rfl (fun C z => by cases z) rfl (fun _ => rfl) (by decide) (by decide) (by decide) (by omega) (by omega) (by decide) (by decide) (show decode cX2_init 24 = .ok (.newarray .boolean, 2) by decide +kernel) hP4 hS4 (fun H5 hP5 hS5 => ?_)
  rw [cw_up_comm (by omega)] at hP5
  have hP5 : va_P D vwCl (cw_l o (n + 1 + 1 + 1) (cw_up (cw_up (cw_up (cw_up w (n) (.inl (cy 2, 10, .inr (.inr (.inr (.inr (fun _ => none))))))) (n + 1) (.inl (cy 1, 10, .inl (fun _ => 0)))) (n + 1 + 1) (.inl (cy 1, 10, .inl (fun _ => 0)))) a (.inr (2, [.ref (o + (n)), .ref (o + (n + 1)), .null, .int 0])))) _ := hP5
  refine cw_putF (C := RX2) (T := TX2) (N := 4) (ci := 2) (k := 2) (a := a) (n := n + 1 + 1 + 1) (ty := tyX2 2) (v := .ref (o + (n + 1 + 1))) hX hnam iw2 tyX2 tyX2_ok nmX2 rfl (by decide) lt_163 rfl rfl (tyX2_ok 2 (by decide)) rfl rfl (Nat.le_of_ble_eq_true rfl) (by omega) cw_up_at (show decode cX2_init 26 = .ok (.putfield 21, 3) by decide +kernel) hP5 hS5 (fun H6 locs6 hP6 hS6 => ?_)
  rw [cw_up_up] at hP6
  have hP6 : va_P D vwCl (cw_l o (n + 1 + 1 + 1) (cw_up (cw_up (cw_up (cw_up w (n) (.inl (cy 2, 10, .inr (.inr (.inr (.inr (fun _ => none))))))) (n + 1) (.inl (cy 1, 10, .inl (fun _ => 0)))) (n + 1 + 1) (.inl (cy 1, 10, .inl (fun _ => 0)))) a (.inr (2, [.ref (o + (n)), .ref (o + (n + 1)), .ref (o + (n + 1 + 1)), .int 0])))) _ := hP6
  refine lv_aload_n hx hb (show decode cX2_init 29 = .ok (.aload_n 0, 1) by decide +kernel) rfl (lv_at hl 0 rfl) ?_
  refine lv_iconst (v := 0) hx hb (show decode cX2_init 30 = .ok (.iconst 0, 1) by decide +kernel) (by decide) ?_
  refine cw_put (C := RX2) (T := TX2) (N := 4) (ci := 2) (k := 3) (a := a) (n := n + 1 + 1 + 1) (ty := tyX2 3) (v := .int 0) hX iw2 tyX2 tyX2_ok nmX2 rfl (by decide) lt_165 rfl rfl (tyX2_ok 3 (by decide)) rfl rfl (Nat.le_of_ble_eq_true rfl) (by omega) cw_up_at (show decode cX2_init 31 = .ok (.putfield 24, 3) by decide +kernel) hP6 hS6 (fun H7 locs7 hP7 hS7 => ?_)
  rw [cw_up_up] at hP7
  have hP7 : va_P D vwCl (cw_l o (n + 1 + 1 + 1) (cw_up (cw_up (cw_up (cw_up w (n) (.inl (cy 2, 10, .inr (.inr (.inr (.inr (fun _ => none))))))) (n + 1) (.inl (cy 1, 10, .inl (fun _ => 0)))) (n + 1 + 1) (.inl (cy 1, 10, .inl (fun _ => 0)))) a (.inr (2, [.ref (o + (n)), .ref (o + (n + 1)), .ref (o + (n + 1 + 1)), .int 0])))) _ := hP7
  exact W.vret hx hb B.returns (fun t ht hW => ⟨rfl, by rw [ht]; exact hP7, am_SF hS7 ht⟩) hS7.2.2 (show decode cX2_init 34 = .ok (.return_, 1) by decide +kernel) B.notSynchronized
def rX3_init : Room := { frames := 1, cells := 1, slots := 8, locals := 12 }
theorem iX3 {l : Launch} {D : va_G} {cy : Nat → ClassId} {o a n : Nat} {w : Nat → va_E} (ha : a < n) (hwa : w a = .inr (3, [.null, .int 0, .int 0, .int 0, .int 0, .int 0, .int 0, .int 0])) : cw_Ct l yX3_init cX3_init 1 rX3_init D cy o a n w (n + 1) (cw_up (cw_up w (n) (.inl (cy 0, 8, .inl (fun _ => 0)))) a (.inr (3, [.ref (o + (n)), .int 0, .int 0, .int (-1), .int 0, .int (-1), .int (-1), .int 0]))) 1 8 := by
  refine Met.ofW (cc := cX3_init) (maxL := 1) (ret := none) (by decide +kernel) rfl ?_
  intro p e s m args below meth c s₁ B hml hv
  obtain ⟨rfl, hK, hw9, hsz, hP⟩ := hv
  have hts0 := atoms_spec (ws := Cond.code yX3_init cX3_init 1 none :: am_TB) B.pre
  have hX : cw_X p s m _ c D cy cX3_init 1 "SheetKernel$Sheet" := ⟨B.exec, B.bytes, hml, findClass_of_methodNamed B.named, fun w hw => hts0 w (List.mem_cons_of_mem _ hw), hK, hw9⟩
  have hx := B.exec
  have hb := B.bytes
  have hnam : meth.name = "<init>" := (name_of_methodNamed B.named B.method).1
  have hl9 := lv_entry ([.ref (o + a)]) (n := 1) (Nat.le_of_ble_eq_true rfl)
  rw [lg_entry_eq]
  refine la_go (lv := [(0, .ref (o + a))]) hl9 (fun ls hl => ?_)
  show W p l e rX3_init s m _ below meth c s.heap [] 0 0 _ _
  rw [← cw_up_id hwa] at hP
  have hS : va_S (am_A o) s.heap s.heap [] := va_S.rf
  refine lv_aload_n hx hb (show decode cX3_init 0 = .ok (.aload_n 0, 1) by decide +kernel) rfl (lv_at hl 0 rfl) ?_
  refine cw_obj hX hl.1 lt_97 lt_81 lt_82 (show decode cX3_init 1 = .ok (.invokespecial 3, 3) by decide +kernel) (by decide) (by decide) ?_
  refine lv_aload_n hx hb (show decode cX3_init 4 = .ok (.aload_n 0, 1) by decide +kernel) rfl (lv_at hl 0 rfl) ?_
  refine lv_bipush (v := 8) hx hb (show decode cX3_init 5 = .ok (.bipush 8, 2) by decide +kernel) (by decide) ?_
  refine cw_newa (atype := .int) (t0 := 0) (ty := .int) (N := 8) (a0 := (8, .inl (fun _ => 0))) (n := n) hX lt_140 rfl (fun C z => by cases z) rfl (fun _ => rfl) (by decide) (by decide) (by decide) (by omega) (by omega) (by decide) (by decide) (show decode cX3_init 7 = .ok (.newarray .int, 2) by decide +kernel) hP hS (fun H1 hP1 hS1 => ?_)
  rw [cw_up_comm (by omega)] at hP1
  have hP1 : va_P D vwCl (cw_l o (n + 1) (cw_up (cw_up w (n) (.inl (cy 0, 8, .inl (fun _ => 0)))) a (.inr (3, [.null, .int 0, .int 0, .int 0, .int 0, .int 0, .int 0, .int 0])))) _ := hP1
  refine cw_putF (C := RX3) (T := TX3) (N := 8) (ci := 3) (k := 0) (a := a) (n := n + 1) (ty := tyX3 0) (v := .ref (o + (n))) hX hnam iw3 tyX3 tyX3_ok nmX3 rfl (by decide) lt_98 rfl rfl (tyX3_ok 0 (by decide)) rfl rfl (Nat.le_of_ble_eq_true rfl) (by omega) cw_up_at (show decode cX3_init 9 = .ok (.putfield 9, 3) by decide +kernel) hP1 hS1 (fun H2 locs2 hP2 hS2 => ?_)
  rw [cw_up_up] at hP2
  have hP2 : va_P D vwCl (cw_l o (n + 1) (cw_up (cw_up w (n) (.inl (cy 0, 8, .inl (fun _ => 0)))) a (.inr (3, [.ref (o + (n)), .int 0, .int 0, .int 0, .int 0, .int 0, .int 0, .int 0])))) _ := hP2
  refine lv_aload_n hx hb (show decode cX3_init 12 = .ok (.aload_n 0, 1) by decide +kernel) rfl (lv_at hl 0 rfl) ?_
  refine lv_iconst (v := 0) hx hb (show decode cX3_init 13 = .ok (.iconst 0, 1) by decide +kernel) (by decide) ?_
  refine cw_put (C := RX3) (T := TX3) (N := 8) (ci := 3) (k := 1) (a := a) (n := n + 1) (ty := tyX3 1) (v := .int 0) hX iw3 tyX3 tyX3_ok nmX3 rfl (by decide) lt_100 rfl rfl (tyX3_ok 1 (by decide)) rfl rfl (Nat.le_of_ble_eq_true rfl) (by omega) cw_up_at (show decode cX3_init 14 = .ok (.putfield 15, 3) by decide +kernel) hP2 hS2 (fun H3 locs3 hP3 hS3 => ?_)
  rw [cw_up_up] at hP3
  have hP3 : va_P D vwCl (cw_l o (n + 1) (cw_up (cw_up w (n) (.inl (cy 0, 8, .inl (fun _ => 0)))) a (.inr (3, [.ref (o + (n)), .int 0, .int 0, .int 0, .int 0, .int 0, .int 0, .int 0])))) _ := hP3
  refine lv_aload_n hx hb (show decode cX3_init 17 = .ok (.aload_n 0, 1) by decide +kernel) rfl (lv_at hl 0 rfl) ?_
  refine lv_iconst (v := 0) hx hb (show decode cX3_init 18 = .ok (.iconst 0, 1) by decide +kernel) (by decide) ?_
  refine cw_put (C := RX3) (T := TX3) (N := 8) (ci := 3) (k := 2) (a := a) (n := n + 1) (ty := tyX3 2) (v := .int 0) hX iw3 tyX3 tyX3_ok nmX3 rfl (by decide) lt_103 rfl rfl (tyX3_ok 2 (by decide)) rfl rfl (Nat.le_of_ble_eq_true rfl) (by omega) cw_up_at (show decode cX3_init 19 = .ok (.putfield 19, 3) by decide +kernel) hP3 hS3 (fun H4 locs4 hP4 hS4 => ?_)
  rw [cw_up_up] at hP4
  have hP4 : va_P D vwCl (cw_l o (n + 1) (cw_up (cw_up w (n) (.inl (cy 0, 8, .inl (fun _ => 0)))) a (.inr (3, [.ref (o + (n)), .int 0, .int 0, .int 0, .int 0, .int 0, .int 0, .int 0])))) _ := hP4
  refine lv_aload_n hx hb (show decode cX3_init 22 = .ok (.aload_n 0, 1) by decide +kernel) rfl (lv_at hl 0 rfl) ?_
  refine lv_iconst (v := (-1)) hx hb (show decode cX3_init 23 = .ok (.iconst (-1), 1) by decide +kernel) (by decide) ?_
  refine cw_put (C := RX3) (T := TX3) (N := 8) (ci := 3) (k := 3) (a := a) (n := n + 1) (ty := tyX3 3) (v := .int (-1)) hX iw3 tyX3 tyX3_ok nmX3 rfl (by decide) lt_108 rfl rfl (tyX3_ok 3 (by decide)) rfl rfl (Nat.le_of_ble_eq_true rfl) (by omega) cw_up_at (show decode cX3_init 24 = .ok (.putfield 22, 3) by decide +kernel) hP4 hS4 (fun H5 locs5 hP5 hS5 => ?_)
  rw [cw_up_up] at hP5
  have hP5 : va_P D vwCl (cw_l o (n + 1) (cw_up (cw_up w (n) (.inl (cy 0, 8, .inl (fun _ => 0)))) a (.inr (3, [.ref (o + (n)), .int 0, .int 0, .int (-1), .int 0, .int 0, .int 0, .int 0])))) _ := hP5
  refine lv_aload_n hx hb (show decode cX3_init 27 = .ok (.aload_n 0, 1) by decide +kernel) rfl (lv_at hl 0 rfl) ?_
  refine lv_iconst (v := 0) hx hb (show decode cX3_init 28 = .ok (.iconst 0, 1) by decide +kernel) (by decide) ?_
  refine cw_put (C := RX3) (T := TX3) (N := 8) (ci := 3) (k := 4) (a := a) (n := n + 1) (ty := tyX3 4) (v := .int 0) hX iw3 tyX3 tyX3_ok nmX3 rfl (by decide) lt_112 rfl rfl (tyX3_ok 4 (by decide)) rfl rfl (Nat.le_of_ble_eq_true rfl) (by omega) cw_up_at (show decode cX3_init 29 = .ok (.putfield 25, 3) by decide +kernel) hP5 hS5 (fun H6 locs6 hP6 hS6 => ?_)
  rw [cw_up_up] at hP6
  have hP6 : va_P D vwCl (cw_l o (n + 1) (cw_up (cw_up w (n) (.inl (cy 0, 8, .inl (fun _ => 0)))) a (.inr (3, [.ref (o + (n)), .int 0, .int 0, .int (-1), .int 0, .int 0, .int 0, .int 0])))) _ := hP6
  refine lv_aload_n hx hb (show decode cX3_init 32 = .ok (.aload_n 0, 1) by decide +kernel) rfl (lv_at hl 0 rfl) ?_
  refine lv_iconst (v := (-1)) hx hb (show decode cX3_init 33 = .ok (.iconst (-1), 1) by decide +kernel) (by decide) ?_
  refine cw_put (C := RX3) (T := TX3) (N := 8) (ci := 3) (k := 5) (a := a) (n := n + 1) (ty := tyX3 5) (v := .int (-1)) hX iw3 tyX3 tyX3_ok nmX3 rfl (by decide) lt_114 rfl rfl (tyX3_ok 5 (by decide)) rfl rfl (Nat.le_of_ble_eq_true rfl) (by omega) cw_up_at (show decode cX3_init 34 = .ok (.putfield 28, 3) by decide +kernel) hP6 hS6 (fun H7 locs7 hP7 hS7 => ?_)
  rw [cw_up_up] at hP7
  have hP7 : va_P D vwCl (cw_l o (n + 1) (cw_up (cw_up w (n) (.inl (cy 0, 8, .inl (fun _ => 0)))) a (.inr (3, [.ref (o + (n)), .int 0, .int 0, .int (-1), .int 0, .int (-1), .int 0, .int 0])))) _ := hP7
  refine lv_aload_n hx hb (show decode cX3_init 37 = .ok (.aload_n 0, 1) by decide +kernel) rfl (lv_at hl 0 rfl) ?_
  refine lv_iconst (v := (-1)) hx hb (show decode cX3_init 38 = .ok (.iconst (-1), 1) by decide +kernel) (by decide) ?_
  refine cw_put (C := RX3) (T := TX3) (N := 8) (ci := 3) (k := 6) (a := a) (n := n + 1) (ty := tyX3 6) (v := .int (-1)) hX iw3 tyX3 tyX3_ok nmX3 rfl (by decide) lt_117 rfl rfl (tyX3_ok 6 (by decide)) rfl rfl (Nat.le_of_ble_eq_true rfl) (by omega) cw_up_at (show decode cX3_init 39 = .ok (.putfield 31, 3) by decide +kernel) hP7 hS7 (fun H8 locs8 hP8 hS8 => ?_)
  rw [cw_up_up] at hP8
  have hP8 : va_P D vwCl (cw_l o (n + 1) (cw_up (cw_up w (n) (.inl (cy 0, 8, .inl (fun _ => 0)))) a (.inr (3, [.ref (o + (n)), .int 0, .int 0, .int (-1), .int 0, .int (-1), .int (-1), .int 0])))) _ := hP8
  refine lv_aload_n hx hb (show decode cX3_init 42 = .ok (.aload_n 0, 1) by decide +kernel) rfl (lv_at hl 0 rfl) ?_
  refine lv_iconst (v := 0) hx hb (show decode cX3_init 43 = .ok (.iconst 0, 1) by decide +kernel) (by decide) ?_
  refine cw_put (C := RX3) (T := TX3) (N := 8) (ci := 3) (k := 7) (a := a) (n := n + 1) (ty := tyX3 7) (v := .int 0) hX iw3 tyX3 tyX3_ok nmX3 rfl (by decide) lt_120 rfl rfl (tyX3_ok 7 (by decide)) rfl rfl (Nat.le_of_ble_eq_true rfl) (by omega) cw_up_at (show decode cX3_init 44 = .ok (.putfield 34, 3) by decide +kernel) hP8 hS8 (fun H9 locs9 hP9 hS9 => ?_)
  rw [cw_up_up] at hP9
  have hP9 : va_P D vwCl (cw_l o (n + 1) (cw_up (cw_up w (n) (.inl (cy 0, 8, .inl (fun _ => 0)))) a (.inr (3, [.ref (o + (n)), .int 0, .int 0, .int (-1), .int 0, .int (-1), .int (-1), .int 0])))) _ := hP9
  exact W.vret hx hb B.returns (fun t ht hW => ⟨rfl, by rw [ht]; exact hP9, am_SF hS9 ht⟩) hS9.2.2 (show decode cX3_init 47 = .ok (.return_, 1) by decide +kernel) B.notSynchronized
def rX5_init : Room := { frames := 1, cells := 4, slots := 39, locals := 12 }
theorem iX5 {l : Launch} {D : va_G} {cy : Nat → ClassId} {o a n : Nat} {w : Nat → va_E} (ha : a < n) (hwa : w a = .inr (5, [.null, .null, .null, .null, .int 0, .int 0, .int 0, .int 0])) : cw_Ct l yX5_init cX5_init 1 rX5_init D cy o a n w (n + 1 + 1 + 1 + 1) (cw_up (cw_up (cw_up (cw_up (cw_up w (n) (.inl (cy 0, 4, .inl (fun _ => 0)))) (n + 1) (.inl (cy 0, 3, .inl (fun _ => 0)))) (n + 1 + 1) (.inl (cy 0, 16, .inl (fun _ => 0)))) (n + 1 + 1 + 1) (.inl (cy 2, 16, .inr (.inr (.inr (.inr (fun _ => none))))))) a (.inr (5, [.ref (o + (n)), .ref (o + (n + 1)), .ref (o + (n + 1 + 1)), .ref (o + (n + 1 + 1 + 1)), .int 0, .int 0, .int 0, .int 0]))) 4 39 := by
  refine Met.ofW (cc := cX5_init) (maxL := 1) (ret := none) (by decide +kernel) rfl ?_
  intro p e s m args below meth c s₁ B hml hv
  obtain ⟨rfl, hK, hw9, hsz, hP⟩ := hv
  have hts0 := atoms_spec (ws := Cond.code yX5_init cX5_init 1 none :: am_TB) B.pre
  have hX : cw_X p s m _ c D cy cX5_init 1 "SheetKernel$Task" := ⟨B.exec, B.bytes, hml, findClass_of_methodNamed B.named, fun w hw => hts0 w (List.mem_cons_of_mem _ hw), hK, hw9⟩
  have hx := B.exec
  have hb := B.bytes
  have hnam : meth.name = "<init>" := (name_of_methodNamed B.named B.method).1
  have hl9 := lv_entry ([.ref (o + a)]) (n := 1) (Nat.le_of_ble_eq_true rfl)
  rw [lg_entry_eq]
  refine la_go (lv := [(0, .ref (o + a))]) hl9 (fun ls hl => ?_)
  show W p l e rX5_init s m _ below meth c s.heap [] 0 0 _ _
  rw [← cw_up_id hwa] at hP
  have hS : va_S (am_A o) s.heap s.heap [] := va_S.rf
  refine lv_aload_n hx hb (show decode cX5_init 0 = .ok (.aload_n 0, 1) by decide +kernel) rfl (lv_at hl 0 rfl) ?_
  refine cw_obj hX hl.1 lt_220 lt_81 lt_82 (show decode cX5_init 1 = .ok (.invokespecial 3, 3) by decide +kernel) (by decide) (by decide) ?_
  refine lv_aload_n hx hb (show decode cX5_init 4 = .ok (.aload_n 0, 1) by decide +kernel) rfl (lv_at hl 0 rfl) ?_
  refine lv_iconst (v := 4) hx hb (show decode cX5_init 5 = .ok (.iconst 4, 1) by decide +kernel) (by decide) ?_
  refine cw_newa (atype := .int) (t0 := 0) (ty := .int) (N := 4) (a0 := (4, .inl (fun _ => 0))) (n := n) hX lt_140 rfl (fun C z => by cases z) rfl (fun _ => rfl) (by decide) (by decide) (by decide) (by omega) (by omega) (by decide) (by decide) (show decode cX5_init 6 = .ok (.newarray .int, 2) by decide +kernel) hP hS (fun H1 hP1 hS1 => ?_)
  rw [cw_up_comm (by omega)] at hP1
  have hP1 : va_P D vwCl (cw_l o (n + 1) (cw_up (cw_up w (n) (.inl (cy 0, 4, .inl (fun _ => 0)))) a (.inr (5, [.null, .null, .null, .null, .int 0, .int 0, .int 0, .int 0])))) _ := hP1
  refine cw_putF (C := RX5) (T := TX5) (N := 8) (ci := 5) (k := 0) (a := a) (n := n + 1) (ty := tyX5 0) (v := .ref (o + (n))) hX hnam iw5 tyX5 tyX5_ok nmX5 rfl (by decide) lt_222 rfl rfl (tyX5_ok 0 (by decide)) rfl rfl (Nat.le_of_ble_eq_true rfl) (by omega) cw_up_at (show decode cX5_init 8 = .ok (.putfield 9, 3) by decide +kernel) hP1 hS1 (fun H2 locs2 hP2 hS2 => ?_)
  rw [cw_up_up] at hP2
  have hP2 : va_P D vwCl (cw_l o (n + 1) (cw_up (cw_up w (n) (.inl (cy 0, 4, .inl (fun _ => 0)))) a (.inr (5, [.ref (o + (n)), .null, .null, .null, .int 0, .int 0, .int 0, .int 0])))) _ := hP2
  refine lv_aload_n hx hb (show decode cX5_init 11 = .ok (.aload_n 0, 1) by decide +kernel) rfl (lv_at hl 0 rfl) ?_
  refine lv_iconst (v := 3) hx hb (show decode cX5_init 12 = .ok (.iconst 3, 1) by decide +kernel) (by decide) ?_
  refine cw_newa (atype := .int) (t0 := 0) (ty := .int) (N := 3) (a0 := (3, .inl (fun _ => 0))) (n := n + 1) hX lt_140 rfl (fun C z => by cases z) rfl (fun _ => rfl) (by decide) (by decide) (by decide) (by omega) (by omega) (by decide) (by decide) (show decode cX5_init 13 = .ok (.newarray .int, 2) by decide +kernel) hP2 hS2 (fun H3 hP3 hS3 => ?_)
  rw [cw_up_comm (by omega)] at hP3
  have hP3 : va_P D vwCl (cw_l o (n + 1 + 1) (cw_up (cw_up (cw_up w (n) (.inl (cy 0, 4, .inl (fun _ => 0)))) (n + 1) (.inl (cy 0, 3, .inl (fun _ => 0)))) a (.inr (5, [.ref (o + (n)), .null, .null, .null, .int 0, .int 0, .int 0, .int 0])))) _ := hP3
  refine cw_putF (C := RX5) (T := TX5) (N := 8) (ci := 5) (k := 1) (a := a) (n := n + 1 + 1) (ty := tyX5 1) (v := .ref (o + (n + 1))) hX hnam iw5 tyX5 tyX5_ok nmX5 rfl (by decide) lt_224 rfl rfl (tyX5_ok 1 (by decide)) rfl rfl (Nat.le_of_ble_eq_true rfl) (by omega) cw_up_at (show decode cX5_init 15 = .ok (.putfield 15, 3) by decide +kernel) hP3 hS3 (fun H4 locs4 hP4 hS4 => ?_)
  rw [cw_up_up] at hP4
  have hP4 : va_P D vwCl (cw_l o (n + 1 + 1) (cw_up (cw_up (cw_up w (n) (.inl (cy 0, 4, .inl (fun _ => 0)))) (n + 1) (.inl (cy 0, 3, .inl (fun _ => 0)))) a (.inr (5, [.ref (o + (n)), .ref (o + (n + 1)), .null, .null, .int 0, .int 0, .int 0, .int 0])))) _ := hP4
  refine lv_aload_n hx hb (show decode cX5_init 18 = .ok (.aload_n 0, 1) by decide +kernel) rfl (lv_at hl 0 rfl) ?_
  refine lv_bipush (v := 16) hx hb (show decode cX5_init 19 = .ok (.bipush 16, 2) by decide +kernel) (by decide) ?_
  refine cw_newa (atype := .int) (t0 := 0) (ty := .int) (N := 16) (a0 := (16, .inl (fun _ => 0))) (n := n + 1 + 1) hX lt_140 rfl (fun C z => by cases z) rfl (fun _ => rfl) (by decide) (by decide) (by decide) (by omega) (by omega) (by decide) (by decide) (show decode cX5_init 21 = .ok (.newarray .int, 2) by decide +kernel) hP4 hS4 (fun H5 hP5 hS5 => ?_)
  rw [cw_up_comm (by omega)] at hP5
  have hP5 : va_P D vwCl (cw_l o (n + 1 + 1 + 1) (cw_up (cw_up (cw_up (cw_up w (n) (.inl (cy 0, 4, .inl (fun _ => 0)))) (n + 1) (.inl (cy 0, 3, .inl (fun _ => 0)))) (n + 1 + 1) (.inl (cy 0, 16, .inl (fun _ => 0)))) a (.inr (5, [.ref (o + (n)), .ref (o + (n + 1)), .null, .null, .int 0, .int 0, .int 0, .int 0])))) _ := hP5
  refine cw_putF (C := RX5) (T := TX5) (N := 8) (ci := 5) (k := 2) (a := a) (n := n + 1 + 1 + 1) (ty := tyX5 2) (v := .ref (o + (n + 1 + 1))) hX hnam iw5 tyX5 tyX5_ok nmX5 rfl (by decide) lt_226 rfl rfl (tyX5_ok 2 (by decide)) rfl rfl (Nat.le_of_ble_eq_true rfl) (by omega) cw_up_at (show decode cX5_init 23 = .ok (.putfield 18, 3) by decide +kernel) hP5 hS5 (fun H6 locs6 hP6 hS6 => ?_)
  rw [cw_up_up] at hP6
  have hP6 : va_P D vwCl (cw_l o (n + 1 + 1 + 1) (cw_up (cw_up (cw_up (cw_up w (n) (.inl (cy 0, 4, .inl (fun _ => 0)))) (n + 1) (.inl (cy 0, 3, .inl (fun _ => 0)))) (n + 1 + 1) (.inl (cy 0, 16, .inl (fun _ => 0)))) a (.inr (5, [.ref (o + (n)), .ref (o + (n + 1)), .ref (o + (n + 1 + 1)), .null, .int 0, .int 0, .int 0, .int 0])))) _ := hP6
  refine lv_aload_n hx hb (show decode cX5_init 26 = .ok (.aload_n 0, 1) by decide +kernel) rfl (lv_at hl 0 rfl) ?_
  refine lv_bipush (v := 16) hx hb (show decode cX5_init 27 = .ok (.bipush 16, 2) by decide +kernel) (by decide) ?_
  refine cw_newq (C := "SheetKernel$Sheet") (t0 := 2) (N := 16) (n := n + 1 + 1 + 1) hX lt_221 hX.2.2.2.2.2.2.1 rfl (by decide) (by decide) (by decide) (by omega) (by omega) (by decide) (by decide) (show decode cX5_init 29 = .ok (.anewarray 21, 3) by decide +kernel) hP6 hS6 (fun H7 hP7 hS7 => ?_)
  rw [cw_up_comm (by omega)] at hP7
  have hP7 : va_P D vwCl (cw_l o (n + 1 + 1 + 1 + 1) (cw_up (cw_up (cw_up (cw_up (cw_up w (n) (.inl (cy 0, 4, .inl (fun _ => 0)))) (n + 1) (.inl (cy 0, 3, .inl (fun _ => 0)))) (n + 1 + 1) (.inl (cy 0, 16, .inl (fun _ => 0)))) (n + 1 + 1 + 1) (.inl (cy 2, 16, .inr (.inr (.inr (.inr (fun _ => none))))))) a (.inr (5, [.ref (o + (n)), .ref (o + (n + 1)), .ref (o + (n + 1 + 1)), .null, .int 0, .int 0, .int 0, .int 0])))) _ := hP7
  refine cw_putF (C := RX5) (T := TX5) (N := 8) (ci := 5) (k := 3) (a := a) (n := n + 1 + 1 + 1 + 1) (ty := tyX5 3) (v := .ref (o + (n + 1 + 1 + 1))) hX hnam iw5 tyX5 tyX5_ok nmX5 rfl (by decide) lt_228 rfl rfl (tyX5_ok 3 (by decide)) rfl rfl (Nat.le_of_ble_eq_true rfl) (by omega) cw_up_at (show decode cX5_init 32 = .ok (.putfield 23, 3) by decide +kernel) hP7 hS7 (fun H8 locs8 hP8 hS8 => ?_)
  rw [cw_up_up] at hP8
  have hP8 : va_P D vwCl (cw_l o (n + 1 + 1 + 1 + 1) (cw_up (cw_up (cw_up (cw_up (cw_up w (n) (.inl (cy 0, 4, .inl (fun _ => 0)))) (n + 1) (.inl (cy 0, 3, .inl (fun _ => 0)))) (n + 1 + 1) (.inl (cy 0, 16, .inl (fun _ => 0)))) (n + 1 + 1 + 1) (.inl (cy 2, 16, .inr (.inr (.inr (.inr (fun _ => none))))))) a (.inr (5, [.ref (o + (n)), .ref (o + (n + 1)), .ref (o + (n + 1 + 1)), .ref (o + (n + 1 + 1 + 1)), .int 0, .int 0, .int 0, .int 0])))) _ := hP8
  refine lv_aload_n hx hb (show decode cX5_init 35 = .ok (.aload_n 0, 1) by decide +kernel) rfl (lv_at hl 0 rfl) ?_
  refine lv_iconst (v := 0) hx hb (show decode cX5_init 36 = .ok (.iconst 0, 1) by decide +kernel) (by decide) ?_
  refine cw_put (C := RX5) (T := TX5) (N := 8) (ci := 5) (k := 4) (a := a) (n := n + 1 + 1 + 1 + 1) (ty := tyX5 4) (v := .int 0) hX iw5 tyX5 tyX5_ok nmX5 rfl (by decide) lt_230 rfl rfl (tyX5_ok 4 (by decide)) rfl rfl (Nat.le_of_ble_eq_true rfl) (by omega) cw_up_at (show decode cX5_init 37 = .ok (.putfield 27, 3) by decide +kernel) hP8 hS8 (fun H9 locs9 hP9 hS9 => ?_)
  rw [cw_up_up] at hP9
  have hP9 : va_P D vwCl (cw_l o (n + 1 + 1 + 1 + 1) (cw_up (cw_up (cw_up (cw_up (cw_up w (n) (.inl (cy 0, 4, .inl (fun _ => 0)))) (n + 1) (.inl (cy 0, 3, .inl (fun _ => 0)))) (n + 1 + 1) (.inl (cy 0, 16, .inl (fun _ => 0)))) (n + 1 + 1 + 1) (.inl (cy 2, 16, .inr (.inr (.inr (.inr (fun _ => none))))))) a (.inr (5, [.ref (o + (n)), .ref (o + (n + 1)), .ref (o + (n + 1 + 1)), .ref (o + (n + 1 + 1 + 1)), .int 0, .int 0, .int 0, .int 0])))) _ := hP9
  refine lv_aload_n hx hb (show decode cX5_init 40 = .ok (.aload_n 0, 1) by decide +kernel) rfl (lv_at hl 0 rfl) ?_
  refine lv_iconst (v := 0) hx hb (show decode cX5_init 41 = .ok (.iconst 0, 1) by decide +kernel) (by decide) ?_
  refine cw_put (C := RX5) (T := TX5) (N := 8) (ci := 5) (k := 5) (a := a) (n := n + 1 + 1 + 1 + 1) (ty := tyX5 5) (v := .int 0) hX iw5 tyX5 tyX5_ok nmX5 rfl (by decide) lt_232 rfl rfl (tyX5_ok 5 (by decide)) rfl rfl (Nat.le_of_ble_eq_true rfl) (by omega) cw_up_at (show decode cX5_init 42 = .ok (.putfield 31, 3) by decide +kernel) hP9 hS9 (fun H10 locs10 hP10 hS10 => ?_)
  rw [cw_up_up] at hP10
  have hP10 : va_P D vwCl (cw_l o (n + 1 + 1 + 1 + 1) (cw_up (cw_up (cw_up (cw_up (cw_up w (n) (.inl (cy 0, 4, .inl (fun _ => 0)))) (n + 1) (.inl (cy 0, 3, .inl (fun _ => 0)))) (n + 1 + 1) (.inl (cy 0, 16, .inl (fun _ => 0)))) (n + 1 + 1 + 1) (.inl (cy 2, 16, .inr (.inr (.inr (.inr (fun _ => none))))))) a (.inr (5, [.ref (o + (n)), .ref (o + (n + 1)), .ref (o + (n + 1 + 1)), .ref (o + (n + 1 + 1 + 1)), .int 0, .int 0, .int 0, .int 0])))) _ := hP10
  refine lv_aload_n hx hb (show decode cX5_init 45 = .ok (.aload_n 0, 1) by decide +kernel) rfl (lv_at hl 0 rfl) ?_
  refine lv_iconst (v := 0) hx hb (show decode cX5_init 46 = .ok (.iconst 0, 1) by decide +kernel) (by decide) ?_
  refine cw_put (C := RX5) (T := TX5) (N := 8) (ci := 5) (k := 6) (a := a) (n := n + 1 + 1 + 1 + 1) (ty := tyX5 6) (v := .int 0) hX iw5 tyX5 tyX5_ok nmX5 rfl (by decide) lt_234 rfl rfl (tyX5_ok 6 (by decide)) rfl rfl (Nat.le_of_ble_eq_true rfl) (by omega) cw_up_at (show decode cX5_init 47 = .ok (.putfield 34, 3) by decide +kernel) hP10 hS10 (fun H11 locs11 hP11 hS11 => ?_)
  rw [cw_up_up] at hP11
  have hP11 : va_P D vwCl (cw_l o (n + 1 + 1 + 1 + 1) (cw_up (cw_up (cw_up (cw_up (cw_up w (n) (.inl (cy 0, 4, .inl (fun _ => 0)))) (n + 1) (.inl (cy 0, 3, .inl (fun _ => 0)))) (n + 1 + 1) (.inl (cy 0, 16, .inl (fun _ => 0)))) (n + 1 + 1 + 1) (.inl (cy 2, 16, .inr (.inr (.inr (.inr (fun _ => none))))))) a (.inr (5, [.ref (o + (n)), .ref (o + (n + 1)), .ref (o + (n + 1 + 1)), .ref (o + (n + 1 + 1 + 1)), .int 0, .int 0, .int 0, .int 0])))) _ := hP11
  refine lv_aload_n hx hb (show decode cX5_init 50 = .ok (.aload_n 0, 1) by decide +kernel) rfl (lv_at hl 0 rfl) ?_
  refine lv_iconst (v := 0) hx hb (show decode cX5_init 51 = .ok (.iconst 0, 1) by decide +kernel) (by decide) ?_
  refine cw_put (C := RX5) (T := TX5) (N := 8) (ci := 5) (k := 7) (a := a) (n := n + 1 + 1 + 1 + 1) (ty := tyX5 7) (v := .int 0) hX iw5 tyX5 tyX5_ok nmX5 rfl (by decide) lt_236 rfl rfl (tyX5_ok 7 (by decide)) rfl rfl (Nat.le_of_ble_eq_true rfl) (by omega) cw_up_at (show decode cX5_init 52 = .ok (.putfield 38, 3) by decide +kernel) hP11 hS11 (fun H12 locs12 hP12 hS12 => ?_)
  rw [cw_up_up] at hP12
  have hP12 : va_P D vwCl (cw_l o (n + 1 + 1 + 1 + 1) (cw_up (cw_up (cw_up (cw_up (cw_up w (n) (.inl (cy 0, 4, .inl (fun _ => 0)))) (n + 1) (.inl (cy 0, 3, .inl (fun _ => 0)))) (n + 1 + 1) (.inl (cy 0, 16, .inl (fun _ => 0)))) (n + 1 + 1 + 1) (.inl (cy 2, 16, .inr (.inr (.inr (.inr (fun _ => none))))))) a (.inr (5, [.ref (o + (n)), .ref (o + (n + 1)), .ref (o + (n + 1 + 1)), .ref (o + (n + 1 + 1 + 1)), .int 0, .int 0, .int 0, .int 0])))) _ := hP12
  exact W.vret hx hb B.returns (fun t ht hW => ⟨rfl, by rw [ht]; exact hP12, am_SF hS12 ht⟩) hS12.2.2 (show decode cX5_init 55 = .ok (.return_, 1) by decide +kernel) B.notSynchronized
