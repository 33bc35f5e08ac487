/-! the constructor of Sheets (printed by gen/ctor2.py) -/
theorem lt_62 : (Jvm.Cond.initialized "SheetKernel$Sheet") ∈ am_TB := am_tb 62 (by decide +kernel) (by decide +kernel)
theorem lt_90 : (Jvm.Cond.methodLink "SheetKernel$Sheets" (3 : Nat) ({ cls := "java/lang/Object", name := "<init>", desc := "()V" } : Jvm.MethodName)) ∈ am_TB := am_tb 90 (by decide +kernel) (by decide +kernel)
theorem lt_91 : (Jvm.Cond.classLink "SheetKernel$Sheets" (9 : Nat) "SheetKernel$Sheet") ∈ am_TB := am_tb 91 (by decide +kernel) (by decide +kernel)
theorem lt_93 : (Jvm.Cond.instantiable "SheetKernel$Sheet" (8 : Nat)) ∈ am_TB := am_tb 93 (by decide +kernel) (by decide +kernel)
theorem lt_95 : (Jvm.Cond.instanceMethod ({ cls := "SheetKernel$Sheet", name := "<init>", desc := "()V" } : Jvm.MethodName)) ∈ am_TB := am_tb 95 (by decide +kernel) (by decide +kernel)
theorem lt_96 : (Jvm.Cond.code ({ cls := "SheetKernel$Sheet", name := "<init>", desc := "()V" } : Jvm.MethodName) prog_5_method_1_code (1 : Nat) (Option.none : Option Jvm.ClassFile.FieldType)) ∈ am_TB := am_tb 96 (by decide +kernel) (by decide +kernel)
theorem lt_141 : (Jvm.Cond.fieldLink "SheetKernel$Sheets" (11 : Nat) "SheetKernel$Sheets" "all" "[LSheetKernel$Sheet;") ∈ am_TB := am_tb 141 (by decide +kernel) (by decide +kernel)
theorem lt_143 : (Jvm.Cond.fieldLink "SheetKernel$Sheets" (17 : Nat) "SheetKernel$Sheets" "spare" "[LSheetKernel$Sheet;") ∈ am_TB := am_tb 143 (by decide +kernel) (by decide +kernel)
theorem lt_144 : (Jvm.Cond.fieldLink "SheetKernel$Sheets" (20 : Nat) "SheetKernel$Sheets" "spares" "I") ∈ am_TB := am_tb 144 (by decide +kernel) (by decide +kernel)
theorem cw_alen {p : Program} {l : Launch} {e : Env} {R : Room} {s : State} {m : MethodId} {args : Array Value} {below : List Frame} {meth : Method} {c : Code} {H : Heap} {locs : List Loc} {cells slots : Nat} {Q : State → Prop} {D : va_G} {cy : Nat → ClassId} {o n : Nat} {cc : ByteArray} {nL : Nat} {own : String} {pc : Nat} {ls : Array Slot} {rest : List Value} {w : Nat → va_E} {a t0 : Nat} {x : vp_A} {ty : FieldType} {v : Int32} (hX : cw_X p s m args c D cy cc nL own) (ha : a < n) (hwa : w a = .inl (cy t0, x)) (ht : (am_ty cy)[t0]? = some (cy t0, ty)) (hv : Int32.ofNat x.1 = v) (hdg : decode cc pc = .ok (.arraylength, 1)) (hP : va_P D vwCl (cw_l o n w) H)
    (kk : W p l e R s m args below meth c H locs cells slots Q (F0 m (pc + 1) ls (.int v :: rest))) : W p l e R s m args below meth c H locs cells slots Q (F0 m pc ls (.ref (o + a) :: rest)) := by
  obtain ⟨hx, hb, hml, hown, hts, hK, hw⟩ := hX
  exact va_alen hx hb hK hP a t0 (by rw [cw_l_get ha, hwa]) ht hv hdg kk
theorem cw_aald {p : Program} {l : Launch} {e : Env} {R : Room} {s : State} {m : MethodId} {args : Array Value} {below : List Frame} {meth : Method} {c : Code} {H : Heap} {locs : List Loc} {cells slots : Nat} {Q : State → Prop} {D : va_G} {cy : Nat → ClassId} {o n : Nat} {cc : ByteArray} {nL : Nat} {own : String} {pc : Nat} {ls : Array Slot} {rest : List Value} {w : Nat → va_E} {a t0 N i q : Nat} {C : String} {f : Nat → Option Nat} (hX : cw_X p s m args c D cy cc nL own) (ha : a < n) (hwa : w a = .inl (cy t0, N, .inr (.inr (.inr (.inr f))))) (ht : (am_ty cy)[t0]? = some (cy t0, .object C)) (hi : i < N) (hN : N < 2147483648) (hf : f i = some q) (hdg : decode cc pc = .ok (.aaload, 1)) (hP : va_P D vwCl (cw_l o n w) H)
    (kk : W p l e R s m args below meth c H locs cells slots Q (F0 m (pc + 1) ls (.ref q :: rest))) : W p l e R s m args below meth c H locs cells slots Q (F0 m pc ls (.int (nI i) :: .ref (o + a) :: rest)) := by
  obtain ⟨hx, hb, hml, hown, hts, hK, hw⟩ := hX
  refine va_aldq hx hb hK hP a t0 (by rw [cw_l_get ha, hwa]) ht (am_in_iff.mp (pu_in hi (by omega))) hdg ?_
  rw [nI_clamp (by omega), hf]
  exact kk
def cs_row (o n i : Nat) : Nat → Option Nat := fun j => if j < i then some (o + (n + 2 + 2 * j)) else none
def cs_sh (o k : Nat) : va_E := .inr (3, [.ref (o + k), .int 0, .int 0, .int (-1), .int 0, .int (-1), .int (-1), .int 0])
def cs_W (o : Nat) (cy : Nat → ClassId) (a n : Nat) (w : Nat → va_E) (i : Nat) : Nat → va_E := fun k =>
  if k = a then .inr (4, [.ref (o + n), .ref (o + (n + 1)), .int 128])
  else if k = n then .inl (cy 2, 128, .inr (.inr (.inr (.inr (cs_row o n i)))))
  else if k = n + 1 then .inl (cy 2, 128, .inr (.inr (.inr (.inr (cs_row o n i)))))
  else if n + 2 ≤ k ∧ k < n + 2 + 2 * i then (if (k - (n + 2)) % 2 = 0 then cs_sh o (k + 1) else .inl (cy 0, 8, .inl (fun _ => 0)))
  else w k
theorem cs_row_s (o n i : Nat) : va_up (cs_row o n i) i (some (o + (n + 2 + 2 * i))) = cs_row o n (i + 1) := by
  funext j
  unfold va_up cs_row
  by_cases h : j = i
  · rw [if_pos h, if_pos (by omega), h]
  · rw [if_neg h]
    by_cases h2 : j < i
    · rw [if_pos h2, if_pos (by omega)]
    · rw [if_neg h2, if_neg (by omega)]
theorem cs_W_a {o : Nat} {cy : Nat → ClassId} {a n : Nat} {w : Nat → va_E} {i : Nat} : cs_W o cy a n w i a = .inr (4, [.ref (o + n), .ref (o + (n + 1)), .int 128]) := by unfold cs_W; rw [if_pos rfl]
theorem cs_W_n {o : Nat} {cy : Nat → ClassId} {a n : Nat} {w : Nat → va_E} {i : Nat} (ha : a < n) : cs_W o cy a n w i n = .inl (cy 2, 128, .inr (.inr (.inr (.inr (cs_row o n i))))) := by unfold cs_W; rw [if_neg (by omega), if_pos rfl]
theorem cs_W_n1 {o : Nat} {cy : Nat → ClassId} {a n : Nat} {w : Nat → va_E} {i : Nat} (ha : a < n) : cs_W o cy a n w i (n + 1) = .inl (cy 2, 128, .inr (.inr (.inr (.inr (cs_row o n i))))) := by unfold cs_W; rw [if_neg (by omega), if_neg (by omega), if_pos rfl]
theorem cs_W_s {o : Nat} {cy : Nat → ClassId} {a n : Nat} {w : Nat → va_E} {i k : Nat} {bl : va_E} (ha : a < n) (hk : k < n + 2 + 2 * i + 1 + 1) :
    cw_up (cw_up (cw_up (cw_up (cw_up (cs_W o cy a n w i) (n + 2 + 2 * i) bl) (n + 2 + 2 * i + 1) (.inl (cy 0, 8, .inl (fun _ => 0)))) (n + 2 + 2 * i) (cs_sh o (n + 2 + 2 * i + 1))) n (.inl (cy 2, 128, .inr (.inr (.inr (.inr (cs_row o n (i + 1)))))))) (n + 1) (.inl (cy 2, 128, .inr (.inr (.inr (.inr (cs_row o n (i + 1))))))) k = cs_W o cy a n w (i + 1) k := by
  by_cases h1 : k = n + 1
  · subst h1; rw [cw_up_at, cs_W_n1 ha]
  · rw [cw_up_ne h1]
    by_cases h2 : k = n
    · subst h2; rw [cw_up_at, cs_W_n ha]
    · rw [cw_up_ne h2]
      by_cases h3 : k = n + 2 + 2 * i
      · subst h3
        rw [cw_up_at]
        unfold cs_W
        rw [if_neg (by omega), if_neg h2, if_neg h1, if_pos (by omega), if_pos (by omega)]
      · rw [cw_up_ne h3]
        by_cases h4 : k = n + 2 + 2 * i + 1
        · subst h4
          rw [cw_up_at]
          unfold cs_W
          rw [if_neg (by omega), if_neg h2, if_neg h1, if_pos (by omega), if_neg (by omega)]
        · rw [cw_up_ne h4, cw_up_ne h3]
          unfold cs_W
          by_cases h5 : k = a
          · rw [if_pos h5, if_pos h5]
          · rw [if_neg h5, if_neg h5, if_neg h2, if_neg h2, if_neg h1, if_neg h1]
            by_cases h6 : n + 2 ≤ k ∧ k < n + 2 + 2 * i
            · rw [if_pos h6, if_pos (show n + 2 ≤ k ∧ k < n + 2 + 2 * (i + 1) by omega)]
            · rw [if_neg h6, if_neg (show ¬ (n + 2 ≤ k ∧ k < n + 2 + 2 * (i + 1)) by omega)]
def rX4_init : Room := { frames := 2, cells := 258, slots := 2304, locals := 32 }
set_option maxHeartbeats 1000000 in
theorem iX4_loop {p : Program} {l : Launch} {e : Env} {s : State} {m : MethodId} {args : Array Value} {below : List Frame} {meth : Method} {c : Code} {D : va_G} {cy : Nat → ClassId} {o a n : Nat} {w : Nat → va_E} (ha : a < n) (hX : cw_X p s m args c D cy cX4_init 2 "SheetKernel$Sheets") (hsz : s.heap.size = o + n) (hr : meth.sig.returnType = none) (hlocks : meth.locks = false) :
    ∀ (d i : Nat) (H : Heap) (locs : List Loc) (ls : Array Slot), i + d = 128 → va_P D vwCl (cw_l o (n + 2 + 2 * i) (cs_W o cy a n w i)) H → va_S (am_A o) s.heap H locs → lv_has ls 2 [(0, .ref (o + a)), (1, .int (nI i))] → W p l e rX4_init s m args below meth c H locs (2 + 2 * i) (256 + 16 * i) (MQ below (cw_Qc D o (n + 2 + 2 * 128) (cs_W o cy a n w 128)) args s 258 2304 (am_A o)) (F0 m 33 ls []) := by
  have hx := hX.1
  have hb := hX.2.1
  intro d
  induction d with
  | zero =>
    intro i H locs ls hi hP hS hl
    have e128 : i = 128 := by omega
    subst e128
    refine lv_iload_n hx hb (show decode cX4_init 33 = .ok (.iload_n 1, 1) by decide +kernel) rfl (lv_at hl 1 rfl) ?_
    refine lv_aload_n hx hb (show decode cX4_init 34 = .ok (.aload_n 0, 1) by decide +kernel) rfl (lv_at hl 0 rfl) ?_
    refine cw_get (C := RX4) (T := TX4) (N := 3) (ci := 4) (k := 0) (a := a) (v := .ref (o + n)) hX iw4 rfl (by decide) lt_141 rfl rfl (by omega) cs_W_a (show decode cX4_init 35 = .ok (.getfield 11, 3) by decide +kernel) hP ?_
    refine cw_alen (a := n) (t0 := 2) (v := nI 128) hX (by omega) (cs_W_n ha) rfl rfl (show decode cX4_init 38 = .ok (.arraylength, 1) by decide +kernel) hP ?_
    refine lv_icmp_ge (tgt := 73) hx hb (show decode cX4_init 39 = .ok (.if_icmp .ge 34, 3) by decide +kernel) (by decide) (fun _ => ?_) (fun cq => absurd (nI_le (Nat.le_refl _) (by omega)) cq)
    exact W.vret hx hb hr (fun t ht hW => ⟨rfl, by rw [ht]; exact hP, am_SF hS ht⟩) hS.2.2 (show decode cX4_init 73 = .ok (.return_, 1) by decide +kernel) hlocks
  | succ d ih =>
    intro i H locs ls hi hP hS hl
    refine lv_iload_n hx hb (show decode cX4_init 33 = .ok (.iload_n 1, 1) by decide +kernel) rfl (lv_at hl 1 rfl) ?_
    refine lv_aload_n hx hb (show decode cX4_init 34 = .ok (.aload_n 0, 1) by decide +kernel) rfl (lv_at hl 0 rfl) ?_
    refine cw_get (C := RX4) (T := TX4) (N := 3) (ci := 4) (k := 0) (a := a) (v := .ref (o + n)) hX iw4 rfl (by decide) lt_141 rfl rfl (by omega) cs_W_a (show decode cX4_init 35 = .ok (.getfield 11, 3) by decide +kernel) hP ?_
    refine cw_alen (a := n) (t0 := 2) (v := nI 128) hX (by omega) (cs_W_n ha) rfl rfl (show decode cX4_init 38 = .ok (.arraylength, 1) by decide +kernel) hP ?_
    refine lv_icmp_ge (tgt := 73) hx hb (show decode cX4_init 39 = .ok (.if_icmp .ge 34, 3) by decide +kernel) (by decide) (fun cq => absurd cq (nI_ge (by omega) (by omega))) (fun _ => ?_)
    refine lv_aload_n hx hb (show decode cX4_init 42 = .ok (.aload_n 0, 1) by decide +kernel) rfl (lv_at hl 0 rfl) ?_
    refine cw_get (C := RX4) (T := TX4) (N := 3) (ci := 4) (k := 0) (a := a) (v := .ref (o + n)) hX iw4 rfl (by decide) lt_141 rfl rfl (by omega) cs_W_a (show decode cX4_init 43 = .ok (.getfield 11, 3) by decide +kernel) hP ?_
    refine lv_iload_n hx hb (show decode cX4_init 46 = .ok (.iload_n 1, 1) by decide +kernel) rfl (lv_at hl 1 rfl) ?_
    have r1 : 2 + 2 * i + 1 ≤ rX4_init.cells := by show 2 + 2 * i + 1 ≤ 258; omega
    have r2 : 256 + 16 * i + 8 ≤ rX4_init.slots := by show 256 + 16 * i + 8 ≤ 2304; omega
    refine cw_new (C := RX3) (T := TX3) (N := 8) (ci := 3) (n := n + 2 + 2 * i) (fs := [.null, .int 0, .int 0, .int 0, .int 0, .int 0, .int 0, .int 0]) hX iw3 tyX3 tyX3_ok lt_91 lt_93 lt_62 rfl (by decide) (by omega) (by omega) r1 r2 (show decode cX4_init 47 = .ok (.new 9, 3) by decide +kernel) hP hS (fun H1 hP1 hS1 => ?_)
    refine lv_dup hx hb (show decode cX4_init 50 = .ok (.dup, 1) by decide +kernel) rfl ?_
    refine cw_initN (a := n + 2 + 2 * i) (n := n + 2 + 2 * i + 1) hX hl.1 (iX3 (by omega) cw_up_at) (by decide) lt_96 lt_62 lt_95 rfl (by decide +kernel) (by decide +kernel) (by decide) (show decode cX4_init 51 = .ok (.invokespecial 24, 3) by decide +kernel) (Nat.le_of_ble_eq_true rfl) ⟨by show 2 + 2 * i + 1 + 1 ≤ 258; omega, by show 256 + 16 * i + 8 + 8 ≤ 2304; omega⟩ (by omega) (by omega) hP1 hS1 (fun H2 locs2 hP2 hS2 => ?_)
    have w2n : (cw_up (cw_up (cw_up (cs_W o cy a n w i) (n + 2 + 2 * i) (.inr (3, [.null, .int 0, .int 0, .int 0, .int 0, .int 0, .int 0, .int 0]))) (n + 2 + 2 * i + 1) (.inl (cy 0, 8, .inl (fun _ => 0)))) (n + 2 + 2 * i) (cs_sh o (n + 2 + 2 * i + 1))) n = .inl (cy 2, 128, .inr (.inr (.inr (.inr (cs_row o n i))))) := by rw [cw_up_ne (by omega), cw_up_ne (by omega), cw_up_ne (by omega)]; exact cs_W_n ha
    refine cw_aast (a := n) (b := n + 2 + 2 * i) (ci := 3) (t0 := 2) (r := (RX3, TX3, 8)) hX (by omega) w2n rfl (by omega) cw_up_at rfl (by omega) (by omega) (show decode cX4_init 54 = .ok (.aastore, 1) by decide +kernel) hP2 hS2 (fun H3 locs3 hP3 hS3 => ?_)
    rw [cs_row_s] at hP3
    refine lv_aload_n hx hb (show decode cX4_init 55 = .ok (.aload_n 0, 1) by decide +kernel) rfl (lv_at hl 0 rfl) ?_
    refine cw_get (C := RX4) (T := TX4) (N := 3) (ci := 4) (k := 1) (a := a) (v := .ref (o + (n + 1))) hX iw4 rfl (by decide) lt_143 rfl rfl (by omega) (by rw [cw_up_ne (by omega), cw_up_ne (by omega), cw_up_ne (by omega), cw_up_ne (by omega)]; exact cs_W_a) (show decode cX4_init 56 = .ok (.getfield 17, 3) by decide +kernel) hP3 ?_
    refine lv_iload_n hx hb (show decode cX4_init 59 = .ok (.iload_n 1, 1) by decide +kernel) rfl (lv_at hl 1 rfl) ?_
    refine lv_aload_n hx hb (show decode cX4_init 60 = .ok (.aload_n 0, 1) by decide +kernel) rfl (lv_at hl 0 rfl) ?_
    refine cw_get (C := RX4) (T := TX4) (N := 3) (ci := 4) (k := 0) (a := a) (v := .ref (o + n)) hX iw4 rfl (by decide) lt_141 rfl rfl (by omega) (by rw [cw_up_ne (by omega), cw_up_ne (by omega), cw_up_ne (by omega), cw_up_ne (by omega)]; exact cs_W_a) (show decode cX4_init 61 = .ok (.getfield 11, 3) by decide +kernel) hP3 ?_
    refine lv_iload_n hx hb (show decode cX4_init 64 = .ok (.iload_n 1, 1) by decide +kernel) rfl (lv_at hl 1 rfl) ?_
    refine cw_aald (a := n) (t0 := 2) (q := o + (n + 2 + 2 * i)) hX (by omega) cw_up_at rfl (show i < 128 by omega) (by omega) (by unfold cs_row; rw [if_pos (by omega)]) (show decode cX4_init 65 = .ok (.aaload, 1) by decide +kernel) hP3 ?_
    refine cw_aast (a := n + 1) (b := n + 2 + 2 * i) (ci := 3) (t0 := 2) (r := (RX3, TX3, 8)) (f := cs_row o n i) hX (by omega) (by rw [cw_up_ne (by omega), cw_up_ne (by omega), cw_up_ne (by omega), cw_up_ne (by omega)]; exact cs_W_n1 ha) rfl (by omega) (by rw [cw_up_ne (by omega)]; exact cw_up_at) rfl (by omega) (by omega) (show decode cX4_init 66 = .ok (.aastore, 1) by decide +kernel) hP3 hS3 (fun H4 locs4 hP4 hS4 => ?_)
    rw [cs_row_s, cw_l_congr (fun k hk => cs_W_s ha hk)] at hP4
    refine lv_iinc (v := nI (i + 1)) (lv' := [(1, .int (nI (i + 1))), (0, .ref (o + a))]) hx hb (show decode cX4_init 67 = .ok (.iinc 1 1, 3) by decide +kernel) hl (k := 1) rfl (nI_1 i) (by decide) rfl (fun ls2 hl2 => ?_)
    refine lv_goto (tgt := 33) hx hb (show decode cX4_init 70 = .ok (.goto (-37), 3) by decide +kernel) (by decide) ?_
    refine W.widen (k := 2 + 2 * (i + 1)) (n := 256 + 16 * (i + 1)) (by omega) (by omega) ?_
    exact ih (i + 1) H4 locs4 ls2 (by omega) (by rw [show n + 2 + 2 * (i + 1) = n + 2 + 2 * i + 1 + 1 by omega]; exact hP4) hS4 (lv_sub hl2 [1, 0] rfl)
theorem iX4 {l : Launch} {D : va_G} {cy : Nat → ClassId} {o a n : Nat} {w : Nat → va_E} (ha : a < n) (hwa : w a = .inr (4, [.null, .null, .int 0])) : cw_Ct l yX4_init cX4_init 2 rX4_init D cy o a n w (n + 2 + 2 * 128) (cs_W o cy a n w 128) 258 2304 := by
  refine Met.ofW (cc := cX4_init) (maxL := 2) (ret := none) (by decide +kernel) rfl ?_
  intro p e s m args below meth c s₁ B hml hv
  obtain ⟨rfl, hK, hw9, hsz, hP⟩ := hv
  have hts0 := atoms_spec (ws := Cond.code yX4_init cX4_init 2 none :: am_TB) B.pre
  have hX : cw_X p s m _ c D cy cX4_init 2 "SheetKernel$Sheets" := ⟨B.exec, B.bytes, hml, findClass_of_methodNamed B.named, fun w hw => hts0 w (List.mem_cons_of_mem _ hw), hK, hw9⟩
  have hx := B.exec
  have hb := B.bytes
  have hnam : meth.name = "<init>" := (name_of_methodNamed B.named B.method).1
  have hl9 := lv_entry ([.ref (o + a)]) (n := 2) (Nat.le_of_ble_eq_true rfl)
  rw [lg_entry_eq]
  refine la_go (lv := [(0, .ref (o + a))]) hl9 (fun ls hl => ?_)
  show W p l e rX4_init s m _ below meth c s.heap [] 0 0 _ _
  rw [← cw_up_id hwa] at hP
  have hS : va_S (am_A o) s.heap s.heap [] := va_S.rf
  refine lv_aload_n hx hb (show decode cX4_init 0 = .ok (.aload_n 0, 1) by decide +kernel) rfl (lv_at hl 0 rfl) ?_
  refine cw_obj hX hl.1 lt_90 lt_81 lt_82 (show decode cX4_init 1 = .ok (.invokespecial 3, 3) by decide +kernel) (by decide) (by decide) ?_
  refine lv_aload_n hx hb (show decode cX4_init 4 = .ok (.aload_n 0, 1) by decide +kernel) rfl (lv_at hl 0 rfl) ?_
  refine lv_sipush (v := 128) hx hb (show decode cX4_init 5 = .ok (.sipush 128, 3) by decide +kernel) (by decide) ?_
  refine cw_newq (C := "SheetKernel$Sheet") (t0 := 2) (N := 128) (n := n) hX lt_91 hX.2.2.2.2.2.2.1 rfl (by decide) (by decide) (by decide) (by omega) (by omega) (by decide) (by decide) (show decode cX4_init 8 = .ok (.anewarray 9, 3) by decide +kernel) hP hS (fun H1 hP1 hS1 => ?_)
  rw [cw_up_comm (by omega)] at hP1
  have hP1 : va_P D vwCl (cw_l o (n + 1) (cw_up (cw_up w (n) (.inl (cy 2, 128, .inr (.inr (.inr (.inr (fun _ => none))))))) a (.inr (4, [.null, .null, .int 0])))) _ := hP1
  refine cw_putF (C := RX4) (T := TX4) (N := 3) (ci := 4) (k := 0) (a := a) (n := n + 1) (ty := tyX4 0) (v := .ref (o + (n))) hX hnam iw4 tyX4 tyX4_ok nmX4 rfl (by decide) lt_141 rfl rfl (tyX4_ok 0 (by decide)) rfl rfl (Nat.le_of_ble_eq_true rfl) (by omega) cw_up_at (show decode cX4_init 11 = .ok (.putfield 11, 3) by decide +kernel) hP1 hS1 (fun H2 locs2 hP2 hS2 => ?_)
  rw [cw_up_up] at hP2
  have hP2 : va_P D vwCl (cw_l o (n + 1) (cw_up (cw_up w (n) (.inl (cy 2, 128, .inr (.inr (.inr (.inr (fun _ => none))))))) a (.inr (4, [.ref (o + (n)), .null, .int 0])))) _ := hP2
  refine lv_aload_n hx hb (show decode cX4_init 14 = .ok (.aload_n 0, 1) by decide +kernel) rfl (lv_at hl 0 rfl) ?_
  refine lv_sipush (v := 128) hx hb (show decode cX4_init 15 = .ok (.sipush 128, 3) by decide +kernel) (by decide) ?_
  refine cw_newq (C := "SheetKernel$Sheet") (t0 := 2) (N := 128) (n := n + 1) hX lt_91 hX.2.2.2.2.2.2.1 rfl (by decide) (by decide) (by decide) (by omega) (by omega) (by decide) (by decide) (show decode cX4_init 18 = .ok (.anewarray 9, 3) by decide +kernel) hP2 hS2 (fun H3 hP3 hS3 => ?_)
  rw [cw_up_comm (by omega)] at hP3
  have hP3 : va_P D vwCl (cw_l o (n + 1 + 1) (cw_up (cw_up (cw_up w (n) (.inl (cy 2, 128, .inr (.inr (.inr (.inr (fun _ => none))))))) (n + 1) (.inl (cy 2, 128, .inr (.inr (.inr (.inr (fun _ => none))))))) a (.inr (4, [.ref (o + (n)), .null, .int 0])))) _ := hP3
  refine cw_putF (C := RX4) (T := TX4) (N := 3) (ci := 4) (k := 1) (a := a) (n := n + 1 + 1) (ty := tyX4 1) (v := .ref (o + (n + 1))) hX hnam iw4 tyX4 tyX4_ok nmX4 rfl (by decide) lt_143 rfl rfl (tyX4_ok 1 (by decide)) rfl rfl (Nat.le_of_ble_eq_true rfl) (by omega) cw_up_at (show decode cX4_init 21 = .ok (.putfield 17, 3) by decide +kernel) hP3 hS3 (fun H4 locs4 hP4 hS4 => ?_)
  rw [cw_up_up] at hP4
  have hP4 : va_P D vwCl (cw_l o (n + 1 + 1) (cw_up (cw_up (cw_up w (n) (.inl (cy 2, 128, .inr (.inr (.inr (.inr (fun _ => none))))))) (n + 1) (.inl (cy 2, 128, .inr (.inr (.inr (.inr (fun _ => none))))))) a (.inr (4, [.ref (o + (n)), .ref (o + (n + 1)), .int 0])))) _ := hP4
  refine lv_aload_n hx hb (show decode cX4_init 24 = .ok (.aload_n 0, 1) by decide +kernel) rfl (lv_at hl 0 rfl) ?_
  refine lv_sipush (v := 128) hx hb (show decode cX4_init 25 = .ok (.sipush 128, 3) by decide +kernel) (by decide) ?_
  refine cw_put (C := RX4) (T := TX4) (N := 3) (ci := 4) (k := 2) (a := a) (n := n + 1 + 1) (ty := tyX4 2) (v := .int 128) hX iw4 tyX4 tyX4_ok nmX4 rfl (by decide) lt_144 rfl rfl (tyX4_ok 2 (by decide)) rfl rfl (Nat.le_of_ble_eq_true rfl) (by omega) cw_up_at (show decode cX4_init 28 = .ok (.putfield 20, 3) by decide +kernel) hP4 hS4 (fun H5 locs5 hP5 hS5 => ?_)
  rw [cw_up_up] at hP5
  have hP5 : va_P D vwCl (cw_l o (n + 1 + 1) (cw_up (cw_up (cw_up w (n) (.inl (cy 2, 128, .inr (.inr (.inr (.inr (fun _ => none))))))) (n + 1) (.inl (cy 2, 128, .inr (.inr (.inr (.inr (fun _ => none))))))) a (.inr (4, [.ref (o + (n)), .ref (o + (n + 1)), .int 128])))) _ := hP5
  refine lv_iconst (v := 0) hx hb (show decode cX4_init 31 = .ok (.iconst 0, 1) by decide +kernel) (by decide) ?_
  refine lv_istore_n (lv' := [(1, .int 0), (0, .ref (o + a))]) hx hb (show decode cX4_init 32 = .ok (.istore_n 1, 1) by decide +kernel) rfl hl (by decide) rfl (fun ls hl => ?_)
  refine iX4_loop ha hX hsz B.returns B.notSynchronized 128 0 _ _ ls rfl ?_ hS5 (lv_sub hl [1, 0] rfl)
  rw [cw_l_congr (w' := cs_W o cy a n w 0) (fun k hk => ?_)] at hP5
  · exact hP5
  · have er : cs_row o n 0 = fun _ => none := by
      funext j
      unfold cs_row
      rw [if_neg (by omega)]
    unfold cs_W
    rw [er]
    by_cases h5 : k = a
    · subst h5; rw [cw_up_at, if_pos rfl]
    · rw [cw_up_ne h5, if_neg h5]
      by_cases h1 : k = n + 1
      · subst h1; rw [cw_up_at, if_neg (by omega), if_pos rfl]
      · rw [cw_up_ne h1]
        by_cases h2 : k = n
        · subst h2; rw [cw_up_at, if_pos rfl]
        · rw [cw_up_ne h2, if_neg h2, if_neg h1, if_neg (by omega)]
