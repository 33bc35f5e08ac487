/-! the law's loop -/
theorem pu_and31 (x : Int32) : ∃ k, k < 32 ∧ x &&& 31 = nI k := by
  refine ⟨(x.toBitVec &&& 31#32).toNat, ?_, ?_⟩
  · rw [BitVec.toNat_and]
    exact Nat.lt_of_le_of_lt Nat.and_le_right (by decide)
  · apply Int32.toBitVec_inj.mp
    apply BitVec.eq_of_toNat_eq
    show (x.toBitVec &&& 31#32).toNat = (BitVec.ofNat 32 (x.toBitVec &&& 31#32).toNat).toNat
    rw [BitVec.toNat_ofNat, Nat.mod_eq_of_lt (BitVec.isLt _)]
theorem pu_small : ∀ L : Fin 6, (nI L.1 - 6 : Int32) < 0 := by decide
theorem pu_sub6 {L : Nat} (h : 6 ≤ L) : nI L - 6 = nI (L - 6) := by
  have e : nI L = nI (L - 6) + 6 := by
    rw [show (6 : Int32) = nI 6 from rfl, nI_add, Nat.sub_add_cancel h]
  rw [e, Int32.add_sub_cancel]
theorem pu_head {L i : Nat} (hL : L ≤ 384) (hi : i < 1000) (h : ¬ (nI L - 6 : Int32) < nI i) : i + 5 < L := by
  rcases Nat.lt_or_ge L 6 with o | o
  · refine absurd ?_ h
    have a := Int32.lt_iff_toInt_lt.mp (pu_small ⟨L, o⟩)
    rw [Int32.lt_iff_toInt_lt, nI_toInt (by omega)]
    rw [show (0 : Int32).toInt = 0 from by decide] at a
    dsimp only at a
    omega
  · rw [pu_sub6 o] at h
    have : ¬ L - 6 < i := fun z => h ((nI_ltI (a := L - 6) (b := i) (by omega) (by omega)).mpr z)
    omega
set_option maxHeartbeats 4000000 in
theorem law_loop {p : Program} {l : Launch} {e : Env} {s : State} {m : MethodId} {below : List Frame} {meth : Method} {c : Code} {D : va_G} {cy : Nat → ClassId} {o b L : Nat} {xs : Nat → Int32} (hl0 : l.stackTraces = false) (hL : la_L p s m meth c D cy o b L xs) (hr : meth.sig.returnType = ret) (hlocks : meth.locks = false) (hso : s.heap.size = o) :
    ∀ (d k : Nat) (g : am_S) (H : Heap) (locs : List Loc) (ls : Array Slot), k + d = 65 → LQ g → va_P D vwCl (am_wl o cy g) H → va_S (am_A o) s.heap H locs → lv_has ls 7 (la_lv o b (6 * k)) → W p l e room_1 s m #[Value.ref b] below meth c H locs (1000 + 4 * k) (20000 + 24 * k) (lw_Z below #[Value.ref b] s) (F0 m 23 ls []) := by
  obtain ⟨hX, hnc, hXs, hbl, hbA, hLL⟩ := id hL
  have hx := hX.1
  have hb := hX.2.1
  intro d
  induction d with
  | zero =>
    intro k g H locs ls hk Qg hP hS hl
    have e65 : k = 65 := by omega
    subst e65
    refine lv_iload hx hb (show decode code 23 = .ok (.iload 4, 2) by decide +kernel) (lv_at hl 4 rfl) ?_
    refine lv_aload_n hx hb (show decode code 25 = .ok (.aload_n 0, 1) by decide +kernel) rfl (lv_at hl 0 rfl) ?_
    refine va_slen hx hb hXs hbl hbA hS (show decode code 26 = .ok (.arraylength, 1) by decide +kernel) ?_
    refine lv_bipush (v := 6) hx hb (show decode code 27 = .ok (.bipush 6, 2) by decide +kernel) (by decide) ?_
    refine lv_isub hx hb (show decode code 29 = .ok (.isub, 1) by decide +kernel) ?_
    refine lv_icmp_gt (tgt := 843) hx hb (show decode code 30 = .ok (.if_icmp .gt 813, 3) by decide +kernel) (by decide) (fun _ => ?_) (fun cq => absurd (pu_head hLL (by omega) cq) (by omega))
    refine lv_iconst (v := 1) hx hb (show decode code 843 = .ok (.iconst 1, 1) by decide +kernel) (by decide) ?_
    refine va_forget (fun q hq => by rw [hso]; exact hS.2.2 q hq) ?_
    refine W.widen (k := 600128) (n := 7301098) (by omega) (by omega) ?_
    exact lw_ret hx hb hr hlocks (show decode code 844 = .ok (.ireturn, 1) by decide +kernel)
  | succ d ih =>
    intro k g H locs ls hk Qg hP hS hl
    refine lv_iload hx hb (show decode code 23 = .ok (.iload 4, 2) by decide +kernel) (lv_at hl 4 rfl) ?_
    refine lv_aload_n hx hb (show decode code 25 = .ok (.aload_n 0, 1) by decide +kernel) rfl (lv_at hl 0 rfl) ?_
    refine va_slen hx hb hXs hbl hbA hS (show decode code 26 = .ok (.arraylength, 1) by decide +kernel) ?_
    refine lv_bipush (v := 6) hx hb (show decode code 27 = .ok (.bipush 6, 2) by decide +kernel) (by decide) ?_
    refine lv_isub hx hb (show decode code 29 = .ok (.isub, 1) by decide +kernel) ?_
    refine lv_icmp_gt (tgt := 843) hx hb (show decode code 30 = .ok (.if_icmp .gt 813, 3) by decide +kernel) (by decide) (fun _ => ?_) (fun cq => ?_)
    · have hk9 : k ≤ 64 := by omega
      refine lv_iconst (v := 1) hx hb (show decode code 843 = .ok (.iconst 1, 1) by decide +kernel) (by decide) ?_
      refine va_forget (fun q hq => by rw [hso]; exact hS.2.2 q hq) ?_
      refine W.widen (k := 600128) (n := 7301098) (by omega) (by omega) ?_
      exact lw_ret hx hb hr hlocks (show decode code 844 = .ok (.ireturn, 1) by decide +kernel)
    · have hi : 6 * k + 5 < L := pu_head hLL (by omega) cq
      have hroom : 1000 + 4 * k + 4 ≤ 600128 ∧ 20000 + 24 * k + 24 ≤ 7301098 := ⟨by omega, by omega⟩
      have next : ∀ (g' : am_S) (H1 : Heap) (locs1 : List Loc) (ls1 : Array Slot), LQ g' → va_P D vwCl (am_wl o cy g') H1 → va_S (am_A o) s.heap H1 locs1 → lv_has ls1 7 (la_lv o b (6 * k)) → W p l e room_1 s m #[Value.ref b] below meth c H1 locs1 (1000 + 4 * k + 4) (20000 + 24 * k + 24) (lw_Z below #[Value.ref b] s) (F0 m 837 ls1 []) := by
        intro g' H1 locs1 ls1 Q1 hP1 hS1 hl1
        refine lv_iinc (v := nI (6 * (k + 1))) (lv' := [(4, .int (nI (6 * (k + 1)))), (0, .ref b), (1, .ref (o + am_ad 0 0)), (2, .ref (o + am_ad 24 0)), (3, .ref (o + am_ad 45 0))]) hx hb (show decode code 837 = .ok (.iinc 4 6, 3) by decide +kernel) hl1 (k := 4) rfl (by rw [show Int32.ofInt 6 = nI 6 from by decide, nI_add, show 6 * k + 6 = 6 * (k + 1) by omega]) (by decide) rfl (fun ls2 hl2 => ?_)
        refine lv_goto (tgt := 23) hx hb (show decode code 840 = .ok (.goto (-817), 3) by decide +kernel) (by decide) ?_
        refine W.widen (k := 1000 + 4 * (k + 1)) (n := 20000 + 24 * (k + 1)) (by omega) (by omega) ?_
        exact ih (k + 1) g' H1 locs1 ls2 (by omega) Q1 hP1 hS1 (lv_sub hl2 [1, 2, 3, 4, 0] rfl)
      refine lv_aload_n hx hb (show decode code 33 = .ok (.aload_n 0, 1) by decide +kernel) rfl (lv_at hl 0 rfl) ?_
      refine lv_iload hx hb (show decode code 34 = .ok (.iload 4, 2) by decide +kernel) (lv_at hl 4 rfl) ?_
      refine va_sld hx hb hXs hbl hbA hS (i := nI (6 * k)) (am_in_iff.mp (pu_in (by omega) (by omega))) (show decode code 36 = .ok (.iaload, 1) by decide +kernel) ?_
      refine lv_bipush (v := 31) hx hb (show decode code 37 = .ok (.bipush 31, 2) by decide +kernel) (by decide) ?_
      refine lv_iand hx hb (show decode code 39 = .ok (.iand, 1) by decide +kernel) ?_
      obtain ⟨j, hj, ej⟩ := pu_and31 (xs (nI (6 * k)).toNatClampNeg)
      rw [ej]
      have dts := (show decode code 40 = .ok (.tableswitch 797 0 18 #[92, 108, 169, 242, 291, 319, 344, 384, 433, 482, 522, 559, 612, 623, 660, 709, 734, 759, 784], 92) by decide +kernel)
      match j, hj with
      | 0, _ => exact lv_tableIn (tgt := 132) hx hb dts (by decide) (by decide) (off := 92) (by decide) (by decide) (ca_spawn hl0 hL hi hroom Qg hP hS hl next)
      | 1, _ => exact lv_tableIn (tgt := 148) hx hb dts (by decide) (by decide) (off := 108) (by decide) (by decide) (ca_area hl0 hL hi hroom Qg hP hS hl next)
      | 2, _ => exact lv_tableIn (tgt := 209) hx hb dts (by decide) (by decide) (off := 169) (by decide) (by decide) (ca_share hl0 hL hi hroom Qg hP hS hl next)
      | 3, _ => exact lv_tableIn (tgt := 282) hx hb dts (by decide) (by decide) (off := 242) (by decide) (by decide) (ca_free hl0 hL hi hroom Qg hP hS hl next)
      | 4, _ => exact lv_tableIn (tgt := 331) hx hb dts (by decide) (by decide) (off := 291) (by decide) (by decide) (ca_fork hl0 hL hi hroom Qg hP hS hl next)
      | 5, _ => exact lv_tableIn (tgt := 359) hx hb dts (by decide) (by decide) (off := 319) (by decide) (by decide) (ca_exit hl0 hL hi hroom Qg hP hS hl next)
      | 6, _ => exact lv_tableIn (tgt := 384) hx hb dts (by decide) (by decide) (off := 344) (by decide) (by decide) (ca_read hl0 hL hi hroom Qg hP hS hl next)
      | 7, _ => exact lv_tableIn (tgt := 424) hx hb dts (by decide) (by decide) (off := 384) (by decide) (by decide) (ca_write hl0 hL hi hroom Qg hP hS hl next)
      | 8, _ => exact lv_tableIn (tgt := 473) hx hb dts (by decide) (by decide) (off := 433) (by decide) (by decide) (ca_load hl0 hL hi hroom Qg hP hS hl next)
      | 9, _ => exact lv_tableIn (tgt := 522) hx hb dts (by decide) (by decide) (off := 482) (by decide) (by decide) (ca_run hl0 hL hi hroom Qg hP hS hl next)
      | 10, _ => exact lv_tableIn (tgt := 562) hx hb dts (by decide) (by decide) (off := 522) (by decide) (by decide) (ca_slot hl0 hL hi hroom Qg hP hS hl next)
      | 11, _ => exact lv_tableIn (tgt := 599) hx hb dts (by decide) (by decide) (off := 559) (by decide) (by decide) (ca_valuable hl0 hL hi hroom Qg hP hS hl next)
      | 12, _ => exact lv_tableIn (tgt := 652) hx hb dts (by decide) (by decide) (off := 612) (by decide) (by decide) (ca_tick hl0 hL hi hroom Qg hP hS hl next)
      | 13, _ => exact lv_tableIn (tgt := 663) hx hb dts (by decide) (by decide) (off := 623) (by decide) (by decide) (ca_about hl0 hL hi hroom Qg hP hS hl next)
      | 14, _ => exact lv_tableIn (tgt := 700) hx hb dts (by decide) (by decide) (off := 660) (by decide) (by decide) (ca_page hl0 hL hi hroom Qg hP hS hl next)
      | 15, _ => exact lv_tableIn (tgt := 749) hx hb dts (by decide) (by decide) (off := 709) (by decide) (by decide) (ca_frame hl0 hL hi hroom Qg hP hS hl next)
      | 16, _ => exact lv_tableIn (tgt := 774) hx hb dts (by decide) (by decide) (off := 734) (by decide) (by decide) (ca_slots hl0 hL hi hroom Qg hP hS hl next)
      | 17, _ => exact lv_tableIn (tgt := 799) hx hb dts (by decide) (by decide) (off := 759) (by decide) (by decide) (ca_pool hl0 hL hi hroom Qg hP hS hl next)
      | 18, _ => exact lv_tableIn (tgt := 824) hx hb dts (by decide) (by decide) (off := 784) (by decide) (by decide) (ca_broken hl0 hL hi hroom Qg hP hS hl next)
      | j + 19, hj =>
        refine lv_tableOut (tgt := 837) hx hb dts (Or.inr ?_) (by decide) ?_
        · rw [nI_toInt (by omega)]
          omega
        · refine W.widen (k := 1000 + 4 * k + 4) (n := 20000 + 24 * k + 24) (by omega) (by omega) ?_
          exact next g H locs ls Qg hP hS hl
