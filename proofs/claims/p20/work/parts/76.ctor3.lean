/-! the constructor of SheetKernel (printed by gen/ctor3.py) -/
theorem lt_61 : (Jvm.Cond.initialized "SheetKernel$Sheets") ∈ am_TB := am_tb 61 (by decide +kernel) (by decide +kernel)
theorem lt_63 : (Jvm.Cond.initialized "SheetKernel$Frames") ∈ am_TB := am_tb 63 (by decide +kernel) (by decide +kernel)
theorem lt_64 : (Jvm.Cond.initialized "SheetKernel$Arena") ∈ am_TB := am_tb 64 (by decide +kernel) (by decide +kernel)
theorem lt_65 : (Jvm.Cond.initialized "SheetKernel$Disk") ∈ am_TB := am_tb 65 (by decide +kernel) (by decide +kernel)
theorem lt_66 : (Jvm.Cond.initialized "SheetKernel$Task") ∈ am_TB := am_tb 66 (by decide +kernel) (by decide +kernel)
theorem lt_80 : (Jvm.Cond.methodLink "SheetKernel" (3 : Nat) ({ cls := "java/lang/Object", name := "<init>", desc := "()V" } : Jvm.MethodName)) ∈ am_TB := am_tb 80 (by decide +kernel) (by decide +kernel)
theorem lt_83 : (Jvm.Cond.classLink "SheetKernel" (9 : Nat) "SheetKernel$Task") ∈ am_TB := am_tb 83 (by decide +kernel) (by decide +kernel)
theorem lt_85 : (Jvm.Cond.classLink "SheetKernel" (15 : Nat) "SheetKernel$Sheets") ∈ am_TB := am_tb 85 (by decide +kernel) (by decide +kernel)
theorem lt_86 : (Jvm.Cond.instantiable "SheetKernel$Sheets" (3 : Nat)) ∈ am_TB := am_tb 86 (by decide +kernel) (by decide +kernel)
theorem lt_87 : (Jvm.Cond.methodLink "SheetKernel" (17 : Nat) ({ cls := "SheetKernel$Sheets", name := "<init>", desc := "()V" } : Jvm.MethodName)) ∈ am_TB := am_tb 87 (by decide +kernel) (by decide +kernel)
theorem lt_88 : (Jvm.Cond.instanceMethod ({ cls := "SheetKernel$Sheets", name := "<init>", desc := "()V" } : Jvm.MethodName)) ∈ am_TB := am_tb 88 (by decide +kernel) (by decide +kernel)
theorem lt_89 : (Jvm.Cond.code ({ cls := "SheetKernel$Sheets", name := "<init>", desc := "()V" } : Jvm.MethodName) prog_6_method_1_code (2 : Nat) (Option.none : Option Jvm.ClassFile.FieldType)) ∈ am_TB := am_tb 89 (by decide +kernel) (by decide +kernel)
theorem lt_152 : (Jvm.Cond.classLink "SheetKernel" (22 : Nat) "SheetKernel$Frames") ∈ am_TB := am_tb 152 (by decide +kernel) (by decide +kernel)
theorem lt_153 : (Jvm.Cond.instantiable "SheetKernel$Frames" (4 : Nat)) ∈ am_TB := am_tb 153 (by decide +kernel) (by decide +kernel)
theorem lt_155 : (Jvm.Cond.instanceMethod ({ cls := "SheetKernel$Frames", name := "<init>", desc := "()V" } : Jvm.MethodName)) ∈ am_TB := am_tb 155 (by decide +kernel) (by decide +kernel)
theorem lt_156 : (Jvm.Cond.code ({ cls := "SheetKernel$Frames", name := "<init>", desc := "()V" } : Jvm.MethodName) prog_4_method_1_code (1 : Nat) (Option.none : Option Jvm.ClassFile.FieldType)) ∈ am_TB := am_tb 156 (by decide +kernel) (by decide +kernel)
theorem lt_177 : (Jvm.Cond.classLink "SheetKernel" (29 : Nat) "SheetKernel$Arena") ∈ am_TB := am_tb 177 (by decide +kernel) (by decide +kernel)
theorem lt_178 : (Jvm.Cond.instantiable "SheetKernel$Arena" (3 : Nat)) ∈ am_TB := am_tb 178 (by decide +kernel) (by decide +kernel)
theorem lt_180 : (Jvm.Cond.instanceMethod ({ cls := "SheetKernel$Arena", name := "<init>", desc := "()V" } : Jvm.MethodName)) ∈ am_TB := am_tb 180 (by decide +kernel) (by decide +kernel)
theorem lt_181 : (Jvm.Cond.code ({ cls := "SheetKernel$Arena", name := "<init>", desc := "()V" } : Jvm.MethodName) prog_2_method_1_code (1 : Nat) (Option.none : Option Jvm.ClassFile.FieldType)) ∈ am_TB := am_tb 181 (by decide +kernel) (by decide +kernel)
theorem lt_194 : (Jvm.Cond.classLink "SheetKernel" (36 : Nat) "SheetKernel$Disk") ∈ am_TB := am_tb 194 (by decide +kernel) (by decide +kernel)
theorem lt_195 : (Jvm.Cond.instantiable "SheetKernel$Disk" (4 : Nat)) ∈ am_TB := am_tb 195 (by decide +kernel) (by decide +kernel)
theorem lt_197 : (Jvm.Cond.instanceMethod ({ cls := "SheetKernel$Disk", name := "<init>", desc := "()V" } : Jvm.MethodName)) ∈ am_TB := am_tb 197 (by decide +kernel) (by decide +kernel)
theorem lt_198 : (Jvm.Cond.code ({ cls := "SheetKernel$Disk", name := "<init>", desc := "()V" } : Jvm.MethodName) prog_3_method_1_code (1 : Nat) (Option.none : Option Jvm.ClassFile.FieldType)) ∈ am_TB := am_tb 198 (by decide +kernel) (by decide +kernel)
theorem lt_216 : (Jvm.Cond.instantiable "SheetKernel$Task" (8 : Nat)) ∈ am_TB := am_tb 216 (by decide +kernel) (by decide +kernel)
theorem lt_218 : (Jvm.Cond.instanceMethod ({ cls := "SheetKernel$Task", name := "<init>", desc := "()V" } : Jvm.MethodName)) ∈ am_TB := am_tb 218 (by decide +kernel) (by decide +kernel)
theorem lt_219 : (Jvm.Cond.code ({ cls := "SheetKernel$Task", name := "<init>", desc := "()V" } : Jvm.MethodName) prog_7_method_1_code (1 : Nat) (Option.none : Option Jvm.ClassFile.FieldType)) ∈ am_TB := am_tb 219 (by decide +kernel) (by decide +kernel)
theorem lt_255 : (Jvm.Cond.fieldLink "SheetKernel" (11 : Nat) "SheetKernel" "tasks" "[LSheetKernel$Task;") ∈ am_TB := am_tb 255 (by decide +kernel) (by decide +kernel)
theorem lt_256 : (Jvm.Cond.fieldLink "SheetKernel" (18 : Nat) "SheetKernel" "store" "LSheetKernel$Sheets;") ∈ am_TB := am_tb 256 (by decide +kernel) (by decide +kernel)
theorem lt_257 : (Jvm.Cond.fieldLink "SheetKernel" (25 : Nat) "SheetKernel" "frames" "LSheetKernel$Frames;") ∈ am_TB := am_tb 257 (by decide +kernel) (by decide +kernel)
theorem lt_258 : (Jvm.Cond.fieldLink "SheetKernel" (32 : Nat) "SheetKernel" "arena" "LSheetKernel$Arena;") ∈ am_TB := am_tb 258 (by decide +kernel) (by decide +kernel)
theorem lt_259 : (Jvm.Cond.fieldLink "SheetKernel" (39 : Nat) "SheetKernel" "disk" "LSheetKernel$Disk;") ∈ am_TB := am_tb 259 (by decide +kernel) (by decide +kernel)
theorem cs_W_lt {o : Nat} {cy : Nat → ClassId} {a n : Nat} {w : Nat → va_E} {i k : Nat} (hk : k < a) (ha : a < n) : cs_W o cy a n w i k = w k := by unfold cs_W; rw [if_neg (by omega), if_neg (by omega), if_neg (by omega), if_neg (by omega)]
def ct_row (o i : Nat) : Nat → Option Nat := fun j => if j < i then some (o + (273 + 5 * j)) else none
def ct_cell (o : Nat) (cy : Nat → ClassId) (k : Nat) : va_E := match (k - 273) % 5 with
  | 0 => .inr (5, [.ref (o + (k + 1)), .ref (o + (k + 1 + 1)), .ref (o + (k + 1 + 1 + 1)), .ref (o + (k + 1 + 1 + 1 + 1)), .int 0, .int 0, .int 0, .int 0])
  | 1 => .inl (cy 0, 4, .inl (fun _ => 0))
  | 2 => .inl (cy 0, 3, .inl (fun _ => 0))
  | 3 => .inl (cy 0, 16, .inl (fun _ => 0))
  | _ => .inl (cy 2, 16, .inr (.inr (.inr (.inr (fun _ => none)))))
def ct_W (o : Nat) (cy : Nat → ClassId) (b : Nat → va_E) (i : Nat) : Nat → va_E := fun k =>
  if k = 1 then .inl (cy 3, 8, .inr (.inr (.inr (.inr (ct_row o i)))))
  else if 273 ≤ k ∧ k < 273 + 5 * i then ct_cell o cy k
  else b k
theorem ct_row_s (o i : Nat) : va_up (ct_row o i) i (some (o + (273 + 5 * i))) = ct_row o (i + 1) := by
  funext j
  unfold va_up ct_row
  by_cases h : j = i
  · rw [if_pos h, if_pos (by omega), h]
  · rw [if_neg h]
    by_cases h2 : j < i
    · rw [if_pos h2, if_pos (by omega)]
    · rw [if_neg h2, if_neg (by omega)]
theorem ct_W_1 {o : Nat} {cy : Nat → ClassId} {b : Nat → va_E} {i : Nat} : ct_W o cy b i 1 = .inl (cy 3, 8, .inr (.inr (.inr (.inr (ct_row o i))))) := by unfold ct_W; rw [if_pos rfl]
theorem ct_W_0 {o : Nat} {cy : Nat → ClassId} {b : Nat → va_E} {i : Nat} : ct_W o cy b i 0 = b 0 := by unfold ct_W; rw [if_neg (by decide), if_neg (by omega)]
theorem ct_W_s {o : Nat} {cy : Nat → ClassId} {b : Nat → va_E} {i k : Nat} {bl : va_E} (hk : k < 273 + 5 * i + 1 + 1 + 1 + 1 + 1) :
    cw_up (cw_up (cw_up (cw_up (cw_up (cw_up (cw_up (ct_W o cy b i) (273 + 5 * i) bl) (273 + 5 * i + 1) (.inl (cy 0, 4, .inl (fun _ => 0)))) (273 + 5 * i + 1 + 1) (.inl (cy 0, 3, .inl (fun _ => 0)))) (273 + 5 * i + 1 + 1 + 1) (.inl (cy 0, 16, .inl (fun _ => 0)))) (273 + 5 * i + 1 + 1 + 1 + 1) (.inl (cy 2, 16, .inr (.inr (.inr (.inr (fun _ => none))))))) (273 + 5 * i) (.inr (5, [.ref (o + (273 + 5 * i + 1)), .ref (o + (273 + 5 * i + 1 + 1)), .ref (o + (273 + 5 * i + 1 + 1 + 1)), .ref (o + (273 + 5 * i + 1 + 1 + 1 + 1)), .int 0, .int 0, .int 0, .int 0]))) 1 (.inl (cy 3, 8, .inr (.inr (.inr (.inr (ct_row o (i + 1))))))) k = ct_W o cy b (i + 1) k := by
  by_cases h1 : k = 1
  · subst h1; rw [cw_up_at, ct_W_1]
  · rw [cw_up_ne h1]
    have hn : ∀ z : va_E, (273 ≤ k ∧ k < 273 + 5 * (i + 1)) → ct_cell o cy k = z → ct_W o cy b (i + 1) k = z := fun z h hz => by
      unfold ct_W
      rw [if_neg h1, if_pos h, hz]
    by_cases h3 : k = 273 + 5 * i
    · rw [h3, cw_up_at]
      rw [h3] at hn
      refine (hn _ (by omega) ?_).symm
      unfold ct_cell
      rw [show (273 + 5 * i - 273) % 5 = 0 by omega]
      rfl
    · rw [cw_up_ne h3]
      by_cases h4 : k = 273 + 5 * i + 1 + 1 + 1 + 1
      · rw [h4, cw_up_at]
        rw [h4] at hn
        refine (hn _ (by omega) ?_).symm
        unfold ct_cell
        rw [show (273 + 5 * i + 1 + 1 + 1 + 1 - 273) % 5 = 4 by omega]
        rfl
      · rw [cw_up_ne h4]
        by_cases h5 : k = 273 + 5 * i + 1 + 1 + 1
        · rw [h5, cw_up_at]
          rw [h5] at hn
          refine (hn _ (by omega) ?_).symm
          unfold ct_cell
          rw [show (273 + 5 * i + 1 + 1 + 1 - 273) % 5 = 3 by omega]
          rfl
        · rw [cw_up_ne h5]
          by_cases h6 : k = 273 + 5 * i + 1 + 1
          · rw [h6, cw_up_at]
            rw [h6] at hn
            refine (hn _ (by omega) ?_).symm
            unfold ct_cell
            rw [show (273 + 5 * i + 1 + 1 - 273) % 5 = 2 by omega]
            rfl
          · rw [cw_up_ne h6]
            by_cases h7 : k = 273 + 5 * i + 1
            · rw [h7, cw_up_at]
              rw [h7] at hn
              refine (hn _ (by omega) ?_).symm
              unfold ct_cell
              rw [show (273 + 5 * i + 1 - 273) % 5 = 1 by omega]
              rfl
            · rw [cw_up_ne h7, cw_up_ne h3]
              unfold ct_W
              rw [if_neg h1, if_neg h1]
              by_cases h8 : 273 ≤ k ∧ k < 273 + 5 * i
              · rw [if_pos h8, if_pos (show 273 ≤ k ∧ k < 273 + 5 * (i + 1) by omega)]
              · rw [if_neg h8, if_neg (show ¬ (273 ≤ k ∧ k < 273 + 5 * (i + 1)) by omega)]
def rX6_init : Room := { frames := 3, cells := 312, slots := 2956, locals := 53 }
set_option maxHeartbeats 1000000 in
theorem iX6_loop {p : Program} {l : Launch} {e : Env} {s : State} {m : MethodId} {args : Array Value} {below : List Frame} {meth : Method} {c : Code} {D : va_G} {cy : Nat → ClassId} {o : Nat} {b : Nat → va_E} (hb0 : b 0 = .inr (6, [.ref (o + 1), .ref (o + 2), .ref (o + 261), .ref (o + 265), .ref (o + 268)])) (hX : cw_X p s m args c D cy cX6_init 2 "SheetKernel") (hsz : s.heap.size = o + 1) (hr : meth.sig.returnType = none) (hlocks : meth.locks = false) :
    ∀ (d i : Nat) (H : Heap) (locs : List Loc) (ls : Array Slot), i + d = 8 → va_P D vwCl (cw_l o (273 + 5 * i) (ct_W o cy b i)) H → va_S (am_A o) s.heap H locs → lv_has ls 2 [(0, .ref (o + 0)), (1, .int (nI i))] → W p l e rX6_init s m args below meth c H locs (272 + 5 * i) (2580 + 47 * i) (MQ below (cw_Qc D o 313 (ct_W o cy b 8)) args s 312 2956 (am_A o)) (F0 m 59 ls []) := by
  have hx := hX.1
  have hb := hX.2.1
  intro d
  induction d with
  | zero =>
    intro i H locs ls hi hP hS hl
    have e8 : i = 8 := by omega
    subst e8
    refine lv_iload_n hx hb (show decode cX6_init 59 = .ok (.iload_n 1, 1) by decide +kernel) rfl (lv_at hl 1 rfl) ?_
    refine lv_bipush (v := nI 8) hx hb (show decode cX6_init 60 = .ok (.bipush 8, 2) by decide +kernel) (by decide) ?_
    refine lv_icmp_ge (tgt := 84) hx hb (show decode cX6_init 62 = .ok (.if_icmp .ge 22, 3) by decide +kernel) (by decide) (fun _ => ?_) (fun cq => absurd (nI_le (Nat.le_refl _) (by omega)) cq)
    exact W.vret hx hb hr (fun t ht hW => ⟨rfl, by rw [ht]; exact hP, am_SF hS ht⟩) hS.2.2 (show decode cX6_init 84 = .ok (.return_, 1) by decide +kernel) hlocks
  | succ d ih =>
    intro i H locs ls hi hP hS hl
    refine lv_iload_n hx hb (show decode cX6_init 59 = .ok (.iload_n 1, 1) by decide +kernel) rfl (lv_at hl 1 rfl) ?_
    refine lv_bipush (v := nI 8) hx hb (show decode cX6_init 60 = .ok (.bipush 8, 2) by decide +kernel) (by decide) ?_
    refine lv_icmp_ge (tgt := 84) hx hb (show decode cX6_init 62 = .ok (.if_icmp .ge 22, 3) by decide +kernel) (by decide) (fun cq => absurd cq (nI_ge (by omega) (by omega))) (fun _ => ?_)
    refine lv_aload_n hx hb (show decode cX6_init 65 = .ok (.aload_n 0, 1) by decide +kernel) rfl (lv_at hl 0 rfl) ?_
    refine cw_get (C := RX6) (T := TX6) (N := 5) (ci := 6) (k := 0) (a := 0) (v := .ref (o + 1)) hX iw6 rfl (by decide) lt_255 rfl rfl (by omega) (ct_W_0.trans hb0) (show decode cX6_init 66 = .ok (.getfield 11, 3) by decide +kernel) hP ?_
    refine lv_iload_n hx hb (show decode cX6_init 69 = .ok (.iload_n 1, 1) by decide +kernel) rfl (lv_at hl 1 rfl) ?_
    have r1 : 272 + 5 * i + 1 ≤ rX6_init.cells := by show 272 + 5 * i + 1 ≤ 312; omega
    have r2 : 2580 + 47 * i + 8 ≤ rX6_init.slots := by show 2580 + 47 * i + 8 ≤ 2956; omega
    refine cw_new (C := RX5) (T := TX5) (N := 8) (ci := 5) (n := 273 + 5 * i) (fs := [.null, .null, .null, .null, .int 0, .int 0, .int 0, .int 0]) hX iw5 tyX5 tyX5_ok lt_83 lt_216 lt_66 rfl (by decide) (by omega) (by omega) r1 r2 (show decode cX6_init 70 = .ok (.new 9, 3) by decide +kernel) hP hS (fun H1 hP1 hS1 => ?_)
    refine lv_dup hx hb (show decode cX6_init 73 = .ok (.dup, 1) by decide +kernel) rfl ?_
    refine cw_initN (a := 273 + 5 * i) (n := 273 + 5 * i + 1) hX hl.1 (iX5 (by omega) cw_up_at) (by decide) lt_219 lt_66 lt_218 rfl (by decide +kernel) (by decide +kernel) (by decide) (show decode cX6_init 74 = .ok (.invokespecial 43, 3) by decide +kernel) (Nat.le_of_ble_eq_true rfl) ⟨by show 272 + 5 * i + 1 + 4 ≤ 312; omega, by show 2580 + 47 * i + 8 + 39 ≤ 2956; omega⟩ (by omega) (by omega) hP1 hS1 (fun H2 locs2 hP2 hS2 => ?_)
    refine cw_aast (a := 1) (b := 273 + 5 * i) (ci := 5) (t0 := 3) (r := (RX5, TX5, 8)) (f := ct_row o i) hX (by omega) (by rw [cw_up_ne (by omega), cw_up_ne (by omega), cw_up_ne (by omega), cw_up_ne (by omega), cw_up_ne (by omega), cw_up_ne (by omega)]; exact ct_W_1) rfl (by omega) cw_up_at rfl (show i < 8 by omega) (by omega) (show decode cX6_init 77 = .ok (.aastore, 1) by decide +kernel) hP2 hS2 (fun H3 locs3 hP3 hS3 => ?_)
    rw [ct_row_s, cw_l_congr (fun k hk => ct_W_s hk)] at hP3
    refine lv_iinc (v := nI (i + 1)) (lv' := [(1, .int (nI (i + 1))), (0, .ref (o + 0))]) hx hb (show decode cX6_init 78 = .ok (.iinc 1 1, 3) by decide +kernel) hl (k := 1) rfl (nI_1 i) (by decide) rfl (fun ls2 hl2 => ?_)
    refine lv_goto (tgt := 59) hx hb (show decode cX6_init 81 = .ok (.goto (-22), 3) by decide +kernel) (by decide) ?_
    refine W.widen (k := 272 + 5 * (i + 1)) (n := 2580 + 47 * (i + 1)) (by omega) (by omega) ?_
    exact ih (i + 1) H3 locs3 ls2 (by omega) (by rw [show 273 + 5 * (i + 1) = 273 + 5 * i + 1 + 1 + 1 + 1 + 1 by omega]; exact hP3) hS3 (lv_sub hl2 [1, 0] rfl)
def ck_B (o : Nat) (cy : Nat → ClassId) (w : Nat → va_E) : Nat → va_E := cw_up (cw_up (cw_up (cw_up (cw_up (cw_up (cw_up (cw_up (cw_up (cw_up (cw_up (cw_up (cw_up (cw_up (cw_up (cw_up (cw_up (cw_up (cw_up (cs_W o cy 2 3 (cw_up (cw_up (cw_up w 1 (.inl (cy 3, 8, .inr (.inr (.inr (.inr (fun _ => none))))))) 0 (.inr (6, [.ref (o + 1), .null, .null, .null, .null]))) 2 (.inr (4, [.null, .null, .int 0]))) 128) 0 (.inr (6, [.ref (o + 1), .ref (o + 2), .null, .null, .null]))) 261 (.inr (2, [.null, .null, .null, .int 0]))) 262 (.inl (cy 2, 10, .inr (.inr (.inr (.inr (fun _ => none))))))) 263 (.inl (cy 1, 10, .inl (fun _ => 0)))) 264 (.inl (cy 1, 10, .inl (fun _ => 0)))) 261 (.inr (2, [.ref (o + 262), .ref (o + 263), .ref (o + 264), .int 0]))) 0 (.inr (6, [.ref (o + 1), .ref (o + 2), .ref (o + 261), .null, .null]))) 265 (.inr (0, [.null, .null, .int 0]))) 266 (.inl (cy 1, 64, .inl (fun _ => 0)))) 267 (.inl (cy 0, 64, .inl (fun _ => 0)))) 265 (.inr (0, [.ref (o + 266), .ref (o + 267), .int 0]))) 0 (.inr (6, [.ref (o + 1), .ref (o + 2), .ref (o + 261), .ref (o + 265), .null]))) 268 (.inr (1, [.null, .null, .null, .null]))) 269 (.inl (cy 0, 24, .inl (fun _ => 0)))) 270 (.inl (cy 1, 24, .inl (fun _ => 0)))) 271 (.inl (cy 1, 24, .inl (fun _ => 0)))) 272 (.inl (cy 0, 24, .inl (fun _ => 0)))) 268 (.inr (1, [.ref (o + 269), .ref (o + 270), .ref (o + 271), .ref (o + 272)]))) 0 (.inr (6, [.ref (o + 1), .ref (o + 2), .ref (o + 261), .ref (o + 265), .ref (o + 268)]))
set_option maxHeartbeats 1000000 in
theorem iX6 {l : Launch} {D : va_G} {cy : Nat → ClassId} {o : Nat} {w : Nat → va_E} (hwa : w 0 = .inr (6, [.null, .null, .null, .null, .null])) : cw_Ct l yX6_init cX6_init 2 rX6_init D cy o 0 1 w 313 (ct_W o cy (ck_B o cy w) 8) 312 2956 := by
  refine Met.ofW (cc := cX6_init) (maxL := 2) (ret := none) (by decide +kernel) rfl ?_
  intro p e s m args below meth c s₁ B hml hv
  obtain ⟨rfl, hK, hw9, hsz, hP⟩ := hv
  have hts0 := atoms_spec (ws := Cond.code yX6_init cX6_init 2 none :: am_TB) B.pre
  have hX : cw_X p s m _ c D cy cX6_init 2 "SheetKernel" := ⟨B.exec, B.bytes, hml, findClass_of_methodNamed B.named, fun w hw => hts0 w (List.mem_cons_of_mem _ hw), hK, hw9⟩
  have hx := B.exec
  have hb := B.bytes
  have hnam : meth.name = "<init>" := (name_of_methodNamed B.named B.method).1
  have hl9 := lv_entry ([.ref (o + 0)]) (n := 2) (Nat.le_of_ble_eq_true rfl)
  rw [lg_entry_eq]
  refine la_go (lv := [(0, .ref (o + 0))]) hl9 (fun ls hl => ?_)
  show W p l e rX6_init s m _ below meth c s.heap [] 0 0 _ _
  have hS : va_S (am_A o) s.heap s.heap [] := va_S.rf
  refine lv_aload_n hx hb (show decode cX6_init 0 = .ok (.aload_n 0, 1) by decide +kernel) rfl (lv_at hl 0 rfl) ?_
  refine cw_obj hX hl.1 lt_80 lt_81 lt_82 (show decode cX6_init 1 = .ok (.invokespecial 3, 3) by decide +kernel) (by decide) (by decide) ?_
  refine lv_aload_n hx hb (show decode cX6_init 4 = .ok (.aload_n 0, 1) by decide +kernel) rfl (lv_at hl 0 rfl) ?_
  refine lv_bipush (v := 8) hx hb (show decode cX6_init 5 = .ok (.bipush 8, 2) by decide +kernel) (by decide) ?_
  refine cw_newq (C := "SheetKernel$Task") (t0 := 3) (N := 8) (n := 1) (w := w) hX lt_83 hX.2.2.2.2.2.2.2.1 rfl (by decide) (by decide) (by decide) (by omega) (by omega) (by decide) (by decide) (show decode cX6_init 7 = .ok (.anewarray 9, 3) by decide +kernel) hP hS (fun H1 hP1 hS1 => ?_)
  refine cw_putF (C := RX6) (T := TX6) (N := 5) (ci := 6) (k := 0) (a := 0) (n := 2) (w := cw_up w 1 (.inl (cy 3, 8, .inr (.inr (.inr (.inr (fun _ => none))))))) (fs := [.null, .null, .null, .null, .null]) (ty := tyX6 0) (v := .ref (o + 1)) hX hnam iw6 tyX6 tyX6_ok nmX6 rfl (by decide) lt_255 rfl rfl (tyX6_ok 0 (by decide)) rfl rfl (Nat.le_of_ble_eq_true rfl) (by omega) (by rw [cw_up_ne (by decide)]; exact hwa) (show decode cX6_init 10 = .ok (.putfield 11, 3) by decide +kernel) hP1 hS1 (fun H2 locs2 hP2 hS2 => ?_)
  have hP2 : va_P D vwCl (cw_l o 2 (cw_up (cw_up w 1 (.inl (cy 3, 8, .inr (.inr (.inr (.inr (fun _ => none))))))) 0 (.inr (6, [.ref (o + 1), .null, .null, .null, .null])))) _ := hP2
  refine lv_aload_n hx hb (show decode cX6_init 13 = .ok (.aload_n 0, 1) by decide +kernel) rfl (lv_at hl 0 rfl) ?_
  refine cw_new (C := RX4) (T := TX4) (N := 3) (ci := 4) (n := 2) (w := cw_up (cw_up w 1 (.inl (cy 3, 8, .inr (.inr (.inr (.inr (fun _ => none))))))) 0 (.inr (6, [.ref (o + 1), .null, .null, .null, .null]))) (fs := [.null, .null, .int 0]) hX iw4 tyX4 tyX4_ok lt_85 lt_86 lt_61 rfl (by decide) (by omega) (by omega) (by decide) (by decide) (show decode cX6_init 14 = .ok (.new 15, 3) by decide +kernel) hP2 hS2 (fun H3 hP3 hS3 => ?_)
  have hP3 : va_P D vwCl (cw_l o 3 (cw_up (cw_up (cw_up w 1 (.inl (cy 3, 8, .inr (.inr (.inr (.inr (fun _ => none))))))) 0 (.inr (6, [.ref (o + 1), .null, .null, .null, .null]))) 2 (.inr (4, [.null, .null, .int 0])))) _ := hP3
  refine lv_dup hx hb (show decode cX6_init 17 = .ok (.dup, 1) by decide +kernel) rfl ?_
  refine cw_init (a := 2) (n := 3) (w := cw_up (cw_up (cw_up w 1 (.inl (cy 3, 8, .inr (.inr (.inr (.inr (fun _ => none))))))) 0 (.inr (6, [.ref (o + 1), .null, .null, .null, .null]))) 2 (.inr (4, [.null, .null, .int 0]))) hX hl.1 (iX4 (by omega) cw_up_at) lt_87 lt_89 lt_61 lt_88 rfl (by decide +kernel) (by decide +kernel) (by decide) (show decode cX6_init 18 = .ok (.invokespecial 17, 3) by decide +kernel) (Nat.le_of_ble_eq_true rfl) ⟨by decide, by decide⟩ (by omega) (by omega) hP3 hS3 (fun H4 locs4 hP4 hS4 => ?_)
  have hP4 : va_P D vwCl (cw_l o 261 (cs_W o cy 2 3 (cw_up (cw_up (cw_up w 1 (.inl (cy 3, 8, .inr (.inr (.inr (.inr (fun _ => none))))))) 0 (.inr (6, [.ref (o + 1), .null, .null, .null, .null]))) 2 (.inr (4, [.null, .null, .int 0]))) 128)) _ := hP4
  refine cw_putF (C := RX6) (T := TX6) (N := 5) (ci := 6) (k := 1) (a := 0) (n := 261) (w := cs_W o cy 2 3 (cw_up (cw_up (cw_up w 1 (.inl (cy 3, 8, .inr (.inr (.inr (.inr (fun _ => none))))))) 0 (.inr (6, [.ref (o + 1), .null, .null, .null, .null]))) 2 (.inr (4, [.null, .null, .int 0]))) 128) (fs := [.ref (o + 1), .null, .null, .null, .null]) (ty := tyX6 1) (v := .ref (o + 2)) hX hnam iw6 tyX6 tyX6_ok nmX6 rfl (by decide) lt_256 rfl rfl (tyX6_ok 1 (by decide)) rfl rfl (Nat.le_of_ble_eq_true rfl) (by omega) (by rw [cs_W_lt (by decide) (by decide), cw_up_ne (by decide)]; exact cw_up_at) (show decode cX6_init 21 = .ok (.putfield 18, 3) by decide +kernel) hP4 hS4 (fun H5 locs5 hP5 hS5 => ?_)
  have hP5 : va_P D vwCl (cw_l o 261 (cw_up (cs_W o cy 2 3 (cw_up (cw_up (cw_up w 1 (.inl (cy 3, 8, .inr (.inr (.inr (.inr (fun _ => none))))))) 0 (.inr (6, [.ref (o + 1), .null, .null, .null, .null]))) 2 (.inr (4, [.null, .null, .int 0]))) 128) 0 (.inr (6, [.ref (o + 1), .ref (o + 2), .null, .null, .null])))) _ := hP5
  refine lv_aload_n hx hb (show decode cX6_init 24 = .ok (.aload_n 0, 1) by decide +kernel) rfl (lv_at hl 0 rfl) ?_
  refine cw_new (C := RX2) (T := TX2) (N := 4) (ci := 2) (n := 261) (w := cw_up (cs_W o cy 2 3 (cw_up (cw_up (cw_up w 1 (.inl (cy 3, 8, .inr (.inr (.inr (.inr (fun _ => none))))))) 0 (.inr (6, [.ref (o + 1), .null, .null, .null, .null]))) 2 (.inr (4, [.null, .null, .int 0]))) 128) 0 (.inr (6, [.ref (o + 1), .ref (o + 2), .null, .null, .null]))) (fs := [.null, .null, .null, .int 0]) hX iw2 tyX2 tyX2_ok lt_152 lt_153 lt_63 rfl (by decide) (by omega) (by omega) (by decide) (by decide) (show decode cX6_init 25 = .ok (.new 22, 3) by decide +kernel) hP5 hS5 (fun H6 hP6 hS6 => ?_)
  have hP6 : va_P D vwCl (cw_l o 262 (cw_up (cw_up (cs_W o cy 2 3 (cw_up (cw_up (cw_up w 1 (.inl (cy 3, 8, .inr (.inr (.inr (.inr (fun _ => none))))))) 0 (.inr (6, [.ref (o + 1), .null, .null, .null, .null]))) 2 (.inr (4, [.null, .null, .int 0]))) 128) 0 (.inr (6, [.ref (o + 1), .ref (o + 2), .null, .null, .null]))) 261 (.inr (2, [.null, .null, .null, .int 0])))) _ := hP6
  refine lv_dup hx hb (show decode cX6_init 28 = .ok (.dup, 1) by decide +kernel) rfl ?_
  refine cw_initN (a := 261) (n := 262) (w := cw_up (cw_up (cs_W o cy 2 3 (cw_up (cw_up (cw_up w 1 (.inl (cy 3, 8, .inr (.inr (.inr (.inr (fun _ => none))))))) 0 (.inr (6, [.ref (o + 1), .null, .null, .null, .null]))) 2 (.inr (4, [.null, .null, .int 0]))) 128) 0 (.inr (6, [.ref (o + 1), .ref (o + 2), .null, .null, .null]))) 261 (.inr (2, [.null, .null, .null, .int 0]))) hX hl.1 (iX2 (by omega) cw_up_at) (by decide) lt_156 lt_63 lt_155 rfl (by decide +kernel) (by decide +kernel) (by decide) (show decode cX6_init 29 = .ok (.invokespecial 24, 3) by decide +kernel) (Nat.le_of_ble_eq_true rfl) ⟨by decide, by decide⟩ (by omega) (by omega) hP6 hS6 (fun H7 locs7 hP7 hS7 => ?_)
  have hP7 : va_P D vwCl (cw_l o 265 (cw_up (cw_up (cw_up (cw_up (cw_up (cw_up (cs_W o cy 2 3 (cw_up (cw_up (cw_up w 1 (.inl (cy 3, 8, .inr (.inr (.inr (.inr (fun _ => none))))))) 0 (.inr (6, [.ref (o + 1), .null, .null, .null, .null]))) 2 (.inr (4, [.null, .null, .int 0]))) 128) 0 (.inr (6, [.ref (o + 1), .ref (o + 2), .null, .null, .null]))) 261 (.inr (2, [.null, .null, .null, .int 0]))) 262 (.inl (cy 2, 10, .inr (.inr (.inr (.inr (fun _ => none))))))) 263 (.inl (cy 1, 10, .inl (fun _ => 0)))) 264 (.inl (cy 1, 10, .inl (fun _ => 0)))) 261 (.inr (2, [.ref (o + 262), .ref (o + 263), .ref (o + 264), .int 0])))) _ := hP7
  refine cw_putF (C := RX6) (T := TX6) (N := 5) (ci := 6) (k := 2) (a := 0) (n := 265) (w := cw_up (cw_up (cw_up (cw_up (cw_up (cw_up (cs_W o cy 2 3 (cw_up (cw_up (cw_up w 1 (.inl (cy 3, 8, .inr (.inr (.inr (.inr (fun _ => none))))))) 0 (.inr (6, [.ref (o + 1), .null, .null, .null, .null]))) 2 (.inr (4, [.null, .null, .int 0]))) 128) 0 (.inr (6, [.ref (o + 1), .ref (o + 2), .null, .null, .null]))) 261 (.inr (2, [.null, .null, .null, .int 0]))) 262 (.inl (cy 2, 10, .inr (.inr (.inr (.inr (fun _ => none))))))) 263 (.inl (cy 1, 10, .inl (fun _ => 0)))) 264 (.inl (cy 1, 10, .inl (fun _ => 0)))) 261 (.inr (2, [.ref (o + 262), .ref (o + 263), .ref (o + 264), .int 0]))) (fs := [.ref (o + 1), .ref (o + 2), .null, .null, .null]) (ty := tyX6 2) (v := .ref (o + 261)) hX hnam iw6 tyX6 tyX6_ok nmX6 rfl (by decide) lt_257 rfl rfl (tyX6_ok 2 (by decide)) rfl rfl (Nat.le_of_ble_eq_true rfl) (by omega) (by rw [cw_up_ne (by decide), cw_up_ne (by decide), cw_up_ne (by decide), cw_up_ne (by decide), cw_up_ne (by decide)]; exact cw_up_at) (show decode cX6_init 32 = .ok (.putfield 25, 3) by decide +kernel) hP7 hS7 (fun H8 locs8 hP8 hS8 => ?_)
  have hP8 : va_P D vwCl (cw_l o 265 (cw_up (cw_up (cw_up (cw_up (cw_up (cw_up (cw_up (cs_W o cy 2 3 (cw_up (cw_up (cw_up w 1 (.inl (cy 3, 8, .inr (.inr (.inr (.inr (fun _ => none))))))) 0 (.inr (6, [.ref (o + 1), .null, .null, .null, .null]))) 2 (.inr (4, [.null, .null, .int 0]))) 128) 0 (.inr (6, [.ref (o + 1), .ref (o + 2), .null, .null, .null]))) 261 (.inr (2, [.null, .null, .null, .int 0]))) 262 (.inl (cy 2, 10, .inr (.inr (.inr (.inr (fun _ => none))))))) 263 (.inl (cy 1, 10, .inl (fun _ => 0)))) 264 (.inl (cy 1, 10, .inl (fun _ => 0)))) 261 (.inr (2, [.ref (o + 262), .ref (o + 263), .ref (o + 264), .int 0]))) 0 (.inr (6, [.ref (o + 1), .ref (o + 2), .ref (o + 261), .null, .null])))) _ := hP8
  refine lv_aload_n hx hb (show decode cX6_init 35 = .ok (.aload_n 0, 1) by decide +kernel) rfl (lv_at hl 0 rfl) ?_
  refine cw_new (C := RX0) (T := TX0) (N := 3) (ci := 0) (n := 265) (w := cw_up (cw_up (cw_up (cw_up (cw_up (cw_up (cw_up (cs_W o cy 2 3 (cw_up (cw_up (cw_up w 1 (.inl (cy 3, 8, .inr (.inr (.inr (.inr (fun _ => none))))))) 0 (.inr (6, [.ref (o + 1), .null, .null, .null, .null]))) 2 (.inr (4, [.null, .null, .int 0]))) 128) 0 (.inr (6, [.ref (o + 1), .ref (o + 2), .null, .null, .null]))) 261 (.inr (2, [.null, .null, .null, .int 0]))) 262 (.inl (cy 2, 10, .inr (.inr (.inr (.inr (fun _ => none))))))) 263 (.inl (cy 1, 10, .inl (fun _ => 0)))) 264 (.inl (cy 1, 10, .inl (fun _ => 0)))) 261 (.inr (2, [.ref (o + 262), .ref (o + 263), .ref (o + 264), .int 0]))) 0 (.inr (6, [.ref (o + 1), .ref (o + 2), .ref (o + 261), .null, .null]))) (fs := [.null, .null, .int 0]) hX iw0 tyX0 tyX0_ok lt_177 lt_178 lt_64 rfl (by decide) (by omega) (by omega) (by decide) (by decide) (show decode cX6_init 36 = .ok (.new 29, 3) by decide +kernel) hP8 hS8 (fun H9 hP9 hS9 => ?_)
  have hP9 : va_P D vwCl (cw_l o 266 (cw_up (cw_up (cw_up (cw_up (cw_up (cw_up (cw_up (cw_up (cs_W o cy 2 3 (cw_up (cw_up (cw_up w 1 (.inl (cy 3, 8, .inr (.inr (.inr (.inr (fun _ => none))))))) 0 (.inr (6, [.ref (o + 1), .null, .null, .null, .null]))) 2 (.inr (4, [.null, .null, .int 0]))) 128) 0 (.inr (6, [.ref (o + 1), .ref (o + 2), .null, .null, .null]))) 261 (.inr (2, [.null, .null, .null, .int 0]))) 262 (.inl (cy 2, 10, .inr (.inr (.inr (.inr (fun _ => none))))))) 263 (.inl (cy 1, 10, .inl (fun _ => 0)))) 264 (.inl (cy 1, 10, .inl (fun _ => 0)))) 261 (.inr (2, [.ref (o + 262), .ref (o + 263), .ref (o + 264), .int 0]))) 0 (.inr (6, [.ref (o + 1), .ref (o + 2), .ref (o + 261), .null, .null]))) 265 (.inr (0, [.null, .null, .int 0])))) _ := hP9
  refine lv_dup hx hb (show decode cX6_init 39 = .ok (.dup, 1) by decide +kernel) rfl ?_
  refine cw_initN (a := 265) (n := 266) (w := cw_up (cw_up (cw_up (cw_up (cw_up (cw_up (cw_up (cw_up (cs_W o cy 2 3 (cw_up (cw_up (cw_up w 1 (.inl (cy 3, 8, .inr (.inr (.inr (.inr (fun _ => none))))))) 0 (.inr (6, [.ref (o + 1), .null, .null, .null, .null]))) 2 (.inr (4, [.null, .null, .int 0]))) 128) 0 (.inr (6, [.ref (o + 1), .ref (o + 2), .null, .null, .null]))) 261 (.inr (2, [.null, .null, .null, .int 0]))) 262 (.inl (cy 2, 10, .inr (.inr (.inr (.inr (fun _ => none))))))) 263 (.inl (cy 1, 10, .inl (fun _ => 0)))) 264 (.inl (cy 1, 10, .inl (fun _ => 0)))) 261 (.inr (2, [.ref (o + 262), .ref (o + 263), .ref (o + 264), .int 0]))) 0 (.inr (6, [.ref (o + 1), .ref (o + 2), .ref (o + 261), .null, .null]))) 265 (.inr (0, [.null, .null, .int 0]))) hX hl.1 (iX0 (by omega) cw_up_at) (by decide) lt_181 lt_64 lt_180 rfl (by decide +kernel) (by decide +kernel) (by decide) (show decode cX6_init 40 = .ok (.invokespecial 31, 3) by decide +kernel) (Nat.le_of_ble_eq_true rfl) ⟨by decide, by decide⟩ (by omega) (by omega) hP9 hS9 (fun H10 locs10 hP10 hS10 => ?_)
  have hP10 : va_P D vwCl (cw_l o 268 (cw_up (cw_up (cw_up (cw_up (cw_up (cw_up (cw_up (cw_up (cw_up (cw_up (cw_up (cs_W o cy 2 3 (cw_up (cw_up (cw_up w 1 (.inl (cy 3, 8, .inr (.inr (.inr (.inr (fun _ => none))))))) 0 (.inr (6, [.ref (o + 1), .null, .null, .null, .null]))) 2 (.inr (4, [.null, .null, .int 0]))) 128) 0 (.inr (6, [.ref (o + 1), .ref (o + 2), .null, .null, .null]))) 261 (.inr (2, [.null, .null, .null, .int 0]))) 262 (.inl (cy 2, 10, .inr (.inr (.inr (.inr (fun _ => none))))))) 263 (.inl (cy 1, 10, .inl (fun _ => 0)))) 264 (.inl (cy 1, 10, .inl (fun _ => 0)))) 261 (.inr (2, [.ref (o + 262), .ref (o + 263), .ref (o + 264), .int 0]))) 0 (.inr (6, [.ref (o + 1), .ref (o + 2), .ref (o + 261), .null, .null]))) 265 (.inr (0, [.null, .null, .int 0]))) 266 (.inl (cy 1, 64, .inl (fun _ => 0)))) 267 (.inl (cy 0, 64, .inl (fun _ => 0)))) 265 (.inr (0, [.ref (o + 266), .ref (o + 267), .int 0])))) _ := hP10
  refine cw_putF (C := RX6) (T := TX6) (N := 5) (ci := 6) (k := 3) (a := 0) (n := 268) (w := cw_up (cw_up (cw_up (cw_up (cw_up (cw_up (cw_up (cw_up (cw_up (cw_up (cw_up (cs_W o cy 2 3 (cw_up (cw_up (cw_up w 1 (.inl (cy 3, 8, .inr (.inr (.inr (.inr (fun _ => none))))))) 0 (.inr (6, [.ref (o + 1), .null, .null, .null, .null]))) 2 (.inr (4, [.null, .null, .int 0]))) 128) 0 (.inr (6, [.ref (o + 1), .ref (o + 2), .null, .null, .null]))) 261 (.inr (2, [.null, .null, .null, .int 0]))) 262 (.inl (cy 2, 10, .inr (.inr (.inr (.inr (fun _ => none))))))) 263 (.inl (cy 1, 10, .inl (fun _ => 0)))) 264 (.inl (cy 1, 10, .inl (fun _ => 0)))) 261 (.inr (2, [.ref (o + 262), .ref (o + 263), .ref (o + 264), .int 0]))) 0 (.inr (6, [.ref (o + 1), .ref (o + 2), .ref (o + 261), .null, .null]))) 265 (.inr (0, [.null, .null, .int 0]))) 266 (.inl (cy 1, 64, .inl (fun _ => 0)))) 267 (.inl (cy 0, 64, .inl (fun _ => 0)))) 265 (.inr (0, [.ref (o + 266), .ref (o + 267), .int 0]))) (fs := [.ref (o + 1), .ref (o + 2), .ref (o + 261), .null, .null]) (ty := tyX6 3) (v := .ref (o + 265)) hX hnam iw6 tyX6 tyX6_ok nmX6 rfl (by decide) lt_258 rfl rfl (tyX6_ok 3 (by decide)) rfl rfl (Nat.le_of_ble_eq_true rfl) (by omega) (by rw [cw_up_ne (by decide), cw_up_ne (by decide), cw_up_ne (by decide), cw_up_ne (by decide)]; exact cw_up_at) (show decode cX6_init 43 = .ok (.putfield 32, 3) by decide +kernel) hP10 hS10 (fun H11 locs11 hP11 hS11 => ?_)
  have hP11 : va_P D vwCl (cw_l o 268 (cw_up (cw_up (cw_up (cw_up (cw_up (cw_up (cw_up (cw_up (cw_up (cw_up (cw_up (cw_up (cs_W o cy 2 3 (cw_up (cw_up (cw_up w 1 (.inl (cy 3, 8, .inr (.inr (.inr (.inr (fun _ => none))))))) 0 (.inr (6, [.ref (o + 1), .null, .null, .null, .null]))) 2 (.inr (4, [.null, .null, .int 0]))) 128) 0 (.inr (6, [.ref (o + 1), .ref (o + 2), .null, .null, .null]))) 261 (.inr (2, [.null, .null, .null, .int 0]))) 262 (.inl (cy 2, 10, .inr (.inr (.inr (.inr (fun _ => none))))))) 263 (.inl (cy 1, 10, .inl (fun _ => 0)))) 264 (.inl (cy 1, 10, .inl (fun _ => 0)))) 261 (.inr (2, [.ref (o + 262), .ref (o + 263), .ref (o + 264), .int 0]))) 0 (.inr (6, [.ref (o + 1), .ref (o + 2), .ref (o + 261), .null, .null]))) 265 (.inr (0, [.null, .null, .int 0]))) 266 (.inl (cy 1, 64, .inl (fun _ => 0)))) 267 (.inl (cy 0, 64, .inl (fun _ => 0)))) 265 (.inr (0, [.ref (o + 266), .ref (o + 267), .int 0]))) 0 (.inr (6, [.ref (o + 1), .ref (o + 2), .ref (o + 261), .ref (o + 265), .null])))) _ := hP11
  refine lv_aload_n hx hb (show decode cX6_init 46 = .ok (.aload_n 0, 1) by decide +kernel) rfl (lv_at hl 0 rfl) ?_
  refine cw_new (C := RX1) (T := TX1) (N := 4) (ci := 1) (n := 268) (w := cw_up (cw_up (cw_up (cw_up (cw_up (cw_up (cw_up (cw_up (cw_up (cw_up (cw_up (cw_up (cs_W o cy 2 3 (cw_up (cw_up (cw_up w 1 (.inl (cy 3, 8, .inr (.inr (.inr (.inr (fun _ => none))))))) 0 (.inr (6, [.ref (o + 1), .null, .null, .null, .null]))) 2 (.inr (4, [.null, .null, .int 0]))) 128) 0 (.inr (6, [.ref (o + 1), .ref (o + 2), .null, .null, .null]))) 261 (.inr (2, [.null, .null, .null, .int 0]))) 262 (.inl (cy 2, 10, .inr (.inr (.inr (.inr (fun _ => none))))))) 263 (.inl (cy 1, 10, .inl (fun _ => 0)))) 264 (.inl (cy 1, 10, .inl (fun _ => 0)))) 261 (.inr (2, [.ref (o + 262), .ref (o + 263), .ref (o + 264), .int 0]))) 0 (.inr (6, [.ref (o + 1), .ref (o + 2), .ref (o + 261), .null, .null]))) 265 (.inr (0, [.null, .null, .int 0]))) 266 (.inl (cy 1, 64, .inl (fun _ => 0)))) 267 (.inl (cy 0, 64, .inl (fun _ => 0)))) 265 (.inr (0, [.ref (o + 266), .ref (o + 267), .int 0]))) 0 (.inr (6, [.ref (o + 1), .ref (o + 2), .ref (o + 261), .ref (o + 265), .null]))) (fs := [.null, .null, .null, .null]) hX iw1 tyX1 tyX1_ok lt_194 lt_195 lt_65 rfl (by decide) (by omega) (by omega) (by decide) (by decide) (show decode cX6_init 47 = .ok (.new 36, 3) by decide +kernel) hP11 hS11 (fun H12 hP12 hS12 => ?_)
  have hP12 : va_P D vwCl (cw_l o 269 (cw_up (cw_up (cw_up (cw_up (cw_up (cw_up (cw_up (cw_up (cw_up (cw_up (cw_up (cw_up (cw_up (cs_W o cy 2 3 (cw_up (cw_up (cw_up w 1 (.inl (cy 3, 8, .inr (.inr (.inr (.inr (fun _ => none))))))) 0 (.inr (6, [.ref (o + 1), .null, .null, .null, .null]))) 2 (.inr (4, [.null, .null, .int 0]))) 128) 0 (.inr (6, [.ref (o + 1), .ref (o + 2), .null, .null, .null]))) 261 (.inr (2, [.null, .null, .null, .int 0]))) 262 (.inl (cy 2, 10, .inr (.inr (.inr (.inr (fun _ => none))))))) 263 (.inl (cy 1, 10, .inl (fun _ => 0)))) 264 (.inl (cy 1, 10, .inl (fun _ => 0)))) 261 (.inr (2, [.ref (o + 262), .ref (o + 263), .ref (o + 264), .int 0]))) 0 (.inr (6, [.ref (o + 1), .ref (o + 2), .ref (o + 261), .null, .null]))) 265 (.inr (0, [.null, .null, .int 0]))) 266 (.inl (cy 1, 64, .inl (fun _ => 0)))) 267 (.inl (cy 0, 64, .inl (fun _ => 0)))) 265 (.inr (0, [.ref (o + 266), .ref (o + 267), .int 0]))) 0 (.inr (6, [.ref (o + 1), .ref (o + 2), .ref (o + 261), .ref (o + 265), .null]))) 268 (.inr (1, [.null, .null, .null, .null])))) _ := hP12
  refine lv_dup hx hb (show decode cX6_init 50 = .ok (.dup, 1) by decide +kernel) rfl ?_
  refine cw_initN (a := 268) (n := 269) (w := cw_up (cw_up (cw_up (cw_up (cw_up (cw_up (cw_up (cw_up (cw_up (cw_up (cw_up (cw_up (cw_up (cs_W o cy 2 3 (cw_up (cw_up (cw_up w 1 (.inl (cy 3, 8, .inr (.inr (.inr (.inr (fun _ => none))))))) 0 (.inr (6, [.ref (o + 1), .null, .null, .null, .null]))) 2 (.inr (4, [.null, .null, .int 0]))) 128) 0 (.inr (6, [.ref (o + 1), .ref (o + 2), .null, .null, .null]))) 261 (.inr (2, [.null, .null, .null, .int 0]))) 262 (.inl (cy 2, 10, .inr (.inr (.inr (.inr (fun _ => none))))))) 263 (.inl (cy 1, 10, .inl (fun _ => 0)))) 264 (.inl (cy 1, 10, .inl (fun _ => 0)))) 261 (.inr (2, [.ref (o + 262), .ref (o + 263), .ref (o + 264), .int 0]))) 0 (.inr (6, [.ref (o + 1), .ref (o + 2), .ref (o + 261), .null, .null]))) 265 (.inr (0, [.null, .null, .int 0]))) 266 (.inl (cy 1, 64, .inl (fun _ => 0)))) 267 (.inl (cy 0, 64, .inl (fun _ => 0)))) 265 (.inr (0, [.ref (o + 266), .ref (o + 267), .int 0]))) 0 (.inr (6, [.ref (o + 1), .ref (o + 2), .ref (o + 261), .ref (o + 265), .null]))) 268 (.inr (1, [.null, .null, .null, .null]))) hX hl.1 (iX1 (by omega) cw_up_at) (by decide) lt_198 lt_65 lt_197 rfl (by decide +kernel) (by decide +kernel) (by decide) (show decode cX6_init 51 = .ok (.invokespecial 38, 3) by decide +kernel) (Nat.le_of_ble_eq_true rfl) ⟨by decide, by decide⟩ (by omega) (by omega) hP12 hS12 (fun H13 locs13 hP13 hS13 => ?_)
  have hP13 : va_P D vwCl (cw_l o 273 (cw_up (cw_up (cw_up (cw_up (cw_up (cw_up (cw_up (cw_up (cw_up (cw_up (cw_up (cw_up (cw_up (cw_up (cw_up (cw_up (cw_up (cw_up (cs_W o cy 2 3 (cw_up (cw_up (cw_up w 1 (.inl (cy 3, 8, .inr (.inr (.inr (.inr (fun _ => none))))))) 0 (.inr (6, [.ref (o + 1), .null, .null, .null, .null]))) 2 (.inr (4, [.null, .null, .int 0]))) 128) 0 (.inr (6, [.ref (o + 1), .ref (o + 2), .null, .null, .null]))) 261 (.inr (2, [.null, .null, .null, .int 0]))) 262 (.inl (cy 2, 10, .inr (.inr (.inr (.inr (fun _ => none))))))) 263 (.inl (cy 1, 10, .inl (fun _ => 0)))) 264 (.inl (cy 1, 10, .inl (fun _ => 0)))) 261 (.inr (2, [.ref (o + 262), .ref (o + 263), .ref (o + 264), .int 0]))) 0 (.inr (6, [.ref (o + 1), .ref (o + 2), .ref (o + 261), .null, .null]))) 265 (.inr (0, [.null, .null, .int 0]))) 266 (.inl (cy 1, 64, .inl (fun _ => 0)))) 267 (.inl (cy 0, 64, .inl (fun _ => 0)))) 265 (.inr (0, [.ref (o + 266), .ref (o + 267), .int 0]))) 0 (.inr (6, [.ref (o + 1), .ref (o + 2), .ref (o + 261), .ref (o + 265), .null]))) 268 (.inr (1, [.null, .null, .null, .null]))) 269 (.inl (cy 0, 24, .inl (fun _ => 0)))) 270 (.inl (cy 1, 24, .inl (fun _ => 0)))) 271 (.inl (cy 1, 24, .inl (fun _ => 0)))) 272 (.inl (cy 0, 24, .inl (fun _ => 0)))) 268 (.inr (1, [.ref (o + 269), .ref (o + 270), .ref (o + 271), .ref (o + 272)])))) _ := hP13
  refine cw_putF (C := RX6) (T := TX6) (N := 5) (ci := 6) (k := 4) (a := 0) (n := 273) (w := cw_up (cw_up (cw_up (cw_up (cw_up (cw_up (cw_up (cw_up (cw_up (cw_up (cw_up (cw_up (cw_up (cw_up (cw_up (cw_up (cw_up (cw_up (cs_W o cy 2 3 (cw_up (cw_up (cw_up w 1 (.inl (cy 3, 8, .inr (.inr (.inr (.inr (fun _ => none))))))) 0 (.inr (6, [.ref (o + 1), .null, .null, .null, .null]))) 2 (.inr (4, [.null, .null, .int 0]))) 128) 0 (.inr (6, [.ref (o + 1), .ref (o + 2), .null, .null, .null]))) 261 (.inr (2, [.null, .null, .null, .int 0]))) 262 (.inl (cy 2, 10, .inr (.inr (.inr (.inr (fun _ => none))))))) 263 (.inl (cy 1, 10, .inl (fun _ => 0)))) 264 (.inl (cy 1, 10, .inl (fun _ => 0)))) 261 (.inr (2, [.ref (o + 262), .ref (o + 263), .ref (o + 264), .int 0]))) 0 (.inr (6, [.ref (o + 1), .ref (o + 2), .ref (o + 261), .null, .null]))) 265 (.inr (0, [.null, .null, .int 0]))) 266 (.inl (cy 1, 64, .inl (fun _ => 0)))) 267 (.inl (cy 0, 64, .inl (fun _ => 0)))) 265 (.inr (0, [.ref (o + 266), .ref (o + 267), .int 0]))) 0 (.inr (6, [.ref (o + 1), .ref (o + 2), .ref (o + 261), .ref (o + 265), .null]))) 268 (.inr (1, [.null, .null, .null, .null]))) 269 (.inl (cy 0, 24, .inl (fun _ => 0)))) 270 (.inl (cy 1, 24, .inl (fun _ => 0)))) 271 (.inl (cy 1, 24, .inl (fun _ => 0)))) 272 (.inl (cy 0, 24, .inl (fun _ => 0)))) 268 (.inr (1, [.ref (o + 269), .ref (o + 270), .ref (o + 271), .ref (o + 272)]))) (fs := [.ref (o + 1), .ref (o + 2), .ref (o + 261), .ref (o + 265), .null]) (ty := tyX6 4) (v := .ref (o + 268)) hX hnam iw6 tyX6 tyX6_ok nmX6 rfl (by decide) lt_259 rfl rfl (tyX6_ok 4 (by decide)) rfl rfl (Nat.le_of_ble_eq_true rfl) (by omega) (by rw [cw_up_ne (by decide), cw_up_ne (by decide), cw_up_ne (by decide), cw_up_ne (by decide), cw_up_ne (by decide), cw_up_ne (by decide)]; exact cw_up_at) (show decode cX6_init 54 = .ok (.putfield 39, 3) by decide +kernel) hP13 hS13 (fun H14 locs14 hP14 hS14 => ?_)
  have hP14 : va_P D vwCl (cw_l o 273 (cw_up (cw_up (cw_up (cw_up (cw_up (cw_up (cw_up (cw_up (cw_up (cw_up (cw_up (cw_up (cw_up (cw_up (cw_up (cw_up (cw_up (cw_up (cw_up (cs_W o cy 2 3 (cw_up (cw_up (cw_up w 1 (.inl (cy 3, 8, .inr (.inr (.inr (.inr (fun _ => none))))))) 0 (.inr (6, [.ref (o + 1), .null, .null, .null, .null]))) 2 (.inr (4, [.null, .null, .int 0]))) 128) 0 (.inr (6, [.ref (o + 1), .ref (o + 2), .null, .null, .null]))) 261 (.inr (2, [.null, .null, .null, .int 0]))) 262 (.inl (cy 2, 10, .inr (.inr (.inr (.inr (fun _ => none))))))) 263 (.inl (cy 1, 10, .inl (fun _ => 0)))) 264 (.inl (cy 1, 10, .inl (fun _ => 0)))) 261 (.inr (2, [.ref (o + 262), .ref (o + 263), .ref (o + 264), .int 0]))) 0 (.inr (6, [.ref (o + 1), .ref (o + 2), .ref (o + 261), .null, .null]))) 265 (.inr (0, [.null, .null, .int 0]))) 266 (.inl (cy 1, 64, .inl (fun _ => 0)))) 267 (.inl (cy 0, 64, .inl (fun _ => 0)))) 265 (.inr (0, [.ref (o + 266), .ref (o + 267), .int 0]))) 0 (.inr (6, [.ref (o + 1), .ref (o + 2), .ref (o + 261), .ref (o + 265), .null]))) 268 (.inr (1, [.null, .null, .null, .null]))) 269 (.inl (cy 0, 24, .inl (fun _ => 0)))) 270 (.inl (cy 1, 24, .inl (fun _ => 0)))) 271 (.inl (cy 1, 24, .inl (fun _ => 0)))) 272 (.inl (cy 0, 24, .inl (fun _ => 0)))) 268 (.inr (1, [.ref (o + 269), .ref (o + 270), .ref (o + 271), .ref (o + 272)]))) 0 (.inr (6, [.ref (o + 1), .ref (o + 2), .ref (o + 261), .ref (o + 265), .ref (o + 268)])))) _ := hP14
  refine lv_iconst (v := 0) hx hb (show decode cX6_init 57 = .ok (.iconst 0, 1) by decide +kernel) (by decide) ?_
  refine lv_istore_n (lv' := [(1, .int 0), (0, .ref (o + 0))]) hx hb (show decode cX6_init 58 = .ok (.istore_n 1, 1) by decide +kernel) rfl hl (by decide) rfl (fun ls hl => ?_)
  refine iX6_loop (b := ck_B o cy w) cw_up_at hX hsz B.returns B.notSynchronized 8 0 _ _ ls rfl ?_ hS14 (lv_sub hl [1, 0] rfl)
  rw [cw_l_congr (w' := ct_W o cy (ck_B o cy w) 0) (fun k hk => ?_)] at hP14
  · exact hP14
  · have er : ct_row o 0 = fun _ => none := by
      funext j
      unfold ct_row
      rw [if_neg (by omega)]
    unfold ct_W
    rw [er]
    by_cases h1 : k = 1
    · subst h1
      rw [if_pos rfl]
      rfl
    · rw [if_neg h1, if_neg (by omega)]
      rfl
