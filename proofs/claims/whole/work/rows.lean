section
/-- a private method of a class that the tables say can be made, by its rows of tables_1 -/
def lw_okq (q : MethodName × Nat) : Prop := (q.1.cls ≠ "java/lang/invoke/MethodHandle" ∧ q.1.cls ≠ "java/lang/invoke/VarHandle") ∧ Cond.instantiable q.1.cls q.2 ∈ tables_1 ∧ Cond.privateMethod q.1 ∈ tables_1 ∧ Cond.instanceMethod q.1 ∈ tables_1
theorem lw_p0 : lw_okq (⟨"SheetKernel", "countPages", "()V"⟩, 5) := ⟨⟨by decide +kernel, by decide +kernel⟩, List.mem_of_getElem? (i := 17) (by decide +kernel), List.mem_of_getElem? (i := 277) (by decide +kernel), List.mem_of_getElem? (i := 278) (by decide +kernel)⟩
theorem lw_p1 : lw_okq (⟨"SheetKernel", "lowestNotLiving", "()I"⟩, 5) := ⟨⟨by decide +kernel, by decide +kernel⟩, List.mem_of_getElem? (i := 17) (by decide +kernel), List.mem_of_getElem? (i := 313) (by decide +kernel), List.mem_of_getElem? (i := 314) (by decide +kernel)⟩
theorem lw_p2 : lw_okq (⟨"java/lang/Throwable", "fillInStackTrace", "(I)Ljava/lang/Throwable;"⟩, 6) := ⟨⟨by decide +kernel, by decide +kernel⟩, List.mem_of_getElem? (i := 356) (by decide +kernel), List.mem_of_getElem? (i := 354) (by decide +kernel), List.mem_of_getElem? (i := 355) (by decide +kernel)⟩
theorem lw_p3 : lw_okq (⟨"SheetKernel", "living", "(I)LSheetKernel$Task;"⟩, 5) := ⟨⟨by decide +kernel, by decide +kernel⟩, List.mem_of_getElem? (i := 17) (by decide +kernel), List.mem_of_getElem? (i := 399) (by decide +kernel), List.mem_of_getElem? (i := 400) (by decide +kernel)⟩
theorem lw_p4 : lw_okq (⟨"SheetKernel", "needPage", "(I)V"⟩, 5) := ⟨⟨by decide +kernel, by decide +kernel⟩, List.mem_of_getElem? (i := 17) (by decide +kernel), List.mem_of_getElem? (i := 419) (by decide +kernel), List.mem_of_getElem? (i := 420) (by decide +kernel)⟩
theorem lw_p5 : lw_okq (⟨"SheetKernel", "needCount", "(I)V"⟩, 5) := ⟨⟨by decide +kernel, by decide +kernel⟩, List.mem_of_getElem? (i := 17) (by decide +kernel), List.mem_of_getElem? (i := 424) (by decide +kernel), List.mem_of_getElem? (i := 425) (by decide +kernel)⟩
theorem lw_p6 : lw_okq (⟨"SheetKernel", "needUnmapped", "(LSheetKernel$Task;II)V"⟩, 5) := ⟨⟨by decide +kernel, by decide +kernel⟩, List.mem_of_getElem? (i := 17) (by decide +kernel), List.mem_of_getElem? (i := 445) (by decide +kernel), List.mem_of_getElem? (i := 446) (by decide +kernel)⟩
theorem lw_p7 : lw_okq (⟨"SheetKernel", "needShared", "(LSheetKernel$Task;II)V"⟩, 5) := ⟨⟨by decide +kernel, by decide +kernel⟩, List.mem_of_getElem? (i := 17) (by decide +kernel), List.mem_of_getElem? (i := 466) (by decide +kernel), List.mem_of_getElem? (i := 467) (by decide +kernel)⟩
theorem lw_p8 : lw_okq (⟨"SheetKernel", "needMapped", "(LSheetKernel$Task;II)V"⟩, 5) := ⟨⟨by decide +kernel, by decide +kernel⟩, List.mem_of_getElem? (i := 17) (by decide +kernel), List.mem_of_getElem? (i := 470) (by decide +kernel), List.mem_of_getElem? (i := 471) (by decide +kernel)⟩
theorem lw_p9 : lw_okq (⟨"SheetKernel", "unmap", "(LSheetKernel$Task;I)V"⟩, 5) := ⟨⟨by decide +kernel, by decide +kernel⟩, List.mem_of_getElem? (i := 17) (by decide +kernel), List.mem_of_getElem? (i := 488) (by decide +kernel), List.mem_of_getElem? (i := 489) (by decide +kernel)⟩
theorem lw_p10 : lw_okq (⟨"SheetKernel", "doubled", "(LSheetKernel$Task;)I"⟩, 5) := ⟨⟨by decide +kernel, by decide +kernel⟩, List.mem_of_getElem? (i := 17) (by decide +kernel), List.mem_of_getElem? (i := 519) (by decide +kernel), List.mem_of_getElem? (i := 520) (by decide +kernel)⟩
theorem lw_p11 : lw_okq (⟨"SheetKernel", "endTask", "(LSheetKernel$Task;I)V"⟩, 5) := ⟨⟨by decide +kernel, by decide +kernel⟩, List.mem_of_getElem? (i := 17) (by decide +kernel), List.mem_of_getElem? (i := 531) (by decide +kernel), List.mem_of_getElem? (i := 532) (by decide +kernel)⟩
theorem lw_p12 : lw_okq (⟨"SheetKernel", "needAddress", "(I)V"⟩, 5) := ⟨⟨by decide +kernel, by decide +kernel⟩, List.mem_of_getElem? (i := 17) (by decide +kernel), List.mem_of_getElem? (i := 543) (by decide +kernel), List.mem_of_getElem? (i := 544) (by decide +kernel)⟩
theorem lw_p13 : lw_okq (⟨"SheetKernel", "touch", "(LSheetKernel$Task;II)LSheetKernel$Sheet;"⟩, 5) := ⟨⟨by decide +kernel, by decide +kernel⟩, List.mem_of_getElem? (i := 17) (by decide +kernel), List.mem_of_getElem? (i := 548) (by decide +kernel), List.mem_of_getElem? (i := 549) (by decide +kernel)⟩
theorem lw_p14 : lw_okq (⟨"SheetKernel", "startFault", "(LSheetKernel$Task;LSheetKernel$Sheet;)Z"⟩, 5) := ⟨⟨by decide +kernel, by decide +kernel⟩, List.mem_of_getElem? (i := 17) (by decide +kernel), List.mem_of_getElem? (i := 556) (by decide +kernel), List.mem_of_getElem? (i := 557) (by decide +kernel)⟩
theorem lw_p15 : lw_okq (⟨"SheetKernel", "findFrame", "(LSheetKernel$Task;I)I"⟩, 5) := ⟨⟨by decide +kernel, by decide +kernel⟩, List.mem_of_getElem? (i := 17) (by decide +kernel), List.mem_of_getElem? (i := 568) (by decide +kernel), List.mem_of_getElem? (i := 569) (by decide +kernel)⟩
def lw_privs_1 : List (MethodName × Nat) := [(⟨"SheetKernel", "countPages", "()V"⟩, 5), (⟨"SheetKernel", "lowestNotLiving", "()I"⟩, 5), (⟨"java/lang/Throwable", "fillInStackTrace", "(I)Ljava/lang/Throwable;"⟩, 6), (⟨"SheetKernel", "living", "(I)LSheetKernel$Task;"⟩, 5), (⟨"SheetKernel", "needPage", "(I)V"⟩, 5), (⟨"SheetKernel", "needCount", "(I)V"⟩, 5), (⟨"SheetKernel", "needUnmapped", "(LSheetKernel$Task;II)V"⟩, 5), (⟨"SheetKernel", "needShared", "(LSheetKernel$Task;II)V"⟩, 5), (⟨"SheetKernel", "needMapped", "(LSheetKernel$Task;II)V"⟩, 5), (⟨"SheetKernel", "unmap", "(LSheetKernel$Task;I)V"⟩, 5), (⟨"SheetKernel", "doubled", "(LSheetKernel$Task;)I"⟩, 5), (⟨"SheetKernel", "endTask", "(LSheetKernel$Task;I)V"⟩, 5), (⟨"SheetKernel", "needAddress", "(I)V"⟩, 5), (⟨"SheetKernel", "touch", "(LSheetKernel$Task;II)LSheetKernel$Sheet;"⟩, 5), (⟨"SheetKernel", "startFault", "(LSheetKernel$Task;LSheetKernel$Sheet;)Z"⟩, 5), (⟨"SheetKernel", "findFrame", "(LSheetKernel$Task;I)I"⟩, 5)]
theorem lw_r1 : ∀ q ∈ lw_privs_1, lw_okq q := List.forall_mem_cons.mpr ⟨lw_p0, List.forall_mem_cons.mpr ⟨lw_p1, List.forall_mem_cons.mpr ⟨lw_p2, List.forall_mem_cons.mpr ⟨lw_p3, List.forall_mem_cons.mpr ⟨lw_p4, List.forall_mem_cons.mpr ⟨lw_p5, List.forall_mem_cons.mpr ⟨lw_p6, List.forall_mem_cons.mpr ⟨lw_p7, List.forall_mem_cons.mpr ⟨lw_p8, List.forall_mem_cons.mpr ⟨lw_p9, List.forall_mem_cons.mpr ⟨lw_p10, List.forall_mem_cons.mpr ⟨lw_p11, List.forall_mem_cons.mpr ⟨lw_p12, List.forall_mem_cons.mpr ⟨lw_p13, List.forall_mem_cons.mpr ⟨lw_p14, List.forall_mem_cons.mpr ⟨lw_p15, fun _ h => absurd h List.not_mem_nil⟩⟩⟩⟩⟩⟩⟩⟩⟩⟩⟩⟩⟩⟩⟩⟩
theorem lw_p16 : lw_okq (⟨"SheetKernel", "putAway", "(I)Z"⟩, 5) := ⟨⟨by decide +kernel, by decide +kernel⟩, List.mem_of_getElem? (i := 17) (by decide +kernel), List.mem_of_getElem? (i := 580) (by decide +kernel), List.mem_of_getElem? (i := 581) (by decide +kernel)⟩
theorem lw_p17 : lw_okq (⟨"SheetKernel", "storeInSlots", "(LSheetKernel$Sheet;)Z"⟩, 5) := ⟨⟨by decide +kernel, by decide +kernel⟩, List.mem_of_getElem? (i := 17) (by decide +kernel), List.mem_of_getElem? (i := 596) (by decide +kernel), List.mem_of_getElem? (i := 597) (by decide +kernel)⟩
theorem lw_p18 : lw_okq (⟨"SheetKernel", "isValuable", "(LSheetKernel$Sheet;)Z"⟩, 5) := ⟨⟨by decide +kernel, by decide +kernel⟩, List.mem_of_getElem? (i := 17) (by decide +kernel), List.mem_of_getElem? (i := 604) (by decide +kernel), List.mem_of_getElem? (i := 605) (by decide +kernel)⟩
theorem lw_p19 : lw_okq (⟨"SheetKernel", "whoEnds", "(LSheetKernel$Task;)LSheetKernel$Task;"⟩, 5) := ⟨⟨by decide +kernel, by decide +kernel⟩, List.mem_of_getElem? (i := 17) (by decide +kernel), List.mem_of_getElem? (i := 608) (by decide +kernel), List.mem_of_getElem? (i := 609) (by decide +kernel)⟩
theorem lw_p20 : lw_okq (⟨"SheetKernel", "bringIn", "(LSheetKernel$Sheet;I)V"⟩, 5) := ⟨⟨by decide +kernel, by decide +kernel⟩, List.mem_of_getElem? (i := 17) (by decide +kernel), List.mem_of_getElem? (i := 613) (by decide +kernel), List.mem_of_getElem? (i := 614) (by decide +kernel)⟩
theorem lw_p21 : lw_okq (⟨"SheetKernel", "copyInto", "(LSheetKernel$Task;II)LSheetKernel$Sheet;"⟩, 5) := ⟨⟨by decide +kernel, by decide +kernel⟩, List.mem_of_getElem? (i := 17) (by decide +kernel), List.mem_of_getElem? (i := 627) (by decide +kernel), List.mem_of_getElem? (i := 628) (by decide +kernel)⟩
theorem lw_p22 : lw_okq (⟨"SheetKernel", "throwUntouched", "(LSheetKernel$Task;)V"⟩, 5) := ⟨⟨by decide +kernel, by decide +kernel⟩, List.mem_of_getElem? (i := 17) (by decide +kernel), List.mem_of_getElem? (i := 639) (by decide +kernel), List.mem_of_getElem? (i := 640) (by decide +kernel)⟩
theorem lw_p23 : lw_okq (⟨"SheetKernel", "put", "(IIII)V"⟩, 5) := ⟨⟨by decide +kernel, by decide +kernel⟩, List.mem_of_getElem? (i := 17) (by decide +kernel), List.mem_of_getElem? (i := 667) (by decide +kernel), List.mem_of_getElem? (i := 668) (by decide +kernel)⟩
theorem lw_p24 : lw_okq (⟨"SheetKernel", "endRefused", "(LSheetKernel$Task;)V"⟩, 5) := ⟨⟨by decide +kernel, by decide +kernel⟩, List.mem_of_getElem? (i := 17) (by decide +kernel), List.mem_of_getElem? (i := 686) (by decide +kernel), List.mem_of_getElem? (i := 687) (by decide +kernel)⟩
theorem lw_p25 : lw_okq (⟨"SheetKernel", "perform", "(LSheetKernel$Task;I)V"⟩, 5) := ⟨⟨by decide +kernel, by decide +kernel⟩, List.mem_of_getElem? (i := 17) (by decide +kernel), List.mem_of_getElem? (i := 690) (by decide +kernel), List.mem_of_getElem? (i := 691) (by decide +kernel)⟩
theorem lw_p26 : lw_okq (⟨"SheetKernel", "forkInto", "(LSheetKernel$Task;I)V"⟩, 5) := ⟨⟨by decide +kernel, by decide +kernel⟩, List.mem_of_getElem? (i := 17) (by decide +kernel), List.mem_of_getElem? (i := 694) (by decide +kernel), List.mem_of_getElem? (i := 695) (by decide +kernel)⟩
theorem lw_p27 : lw_okq (⟨"SheetKernelModel", "fresh", "()I"⟩, 22) := ⟨⟨by decide +kernel, by decide +kernel⟩, List.mem_of_getElem? (i := 718) (by decide +kernel), List.mem_of_getElem? (i := 799) (by decide +kernel), List.mem_of_getElem? (i := 800) (by decide +kernel)⟩
theorem lw_p28 : lw_okq (⟨"SheetKernelModel", "isLiving", "(I)Z"⟩, 22) := ⟨⟨by decide +kernel, by decide +kernel⟩, List.mem_of_getElem? (i := 718) (by decide +kernel), List.mem_of_getElem? (i := 807) (by decide +kernel), List.mem_of_getElem? (i := 808) (by decide +kernel)⟩
theorem lw_p29 : lw_okq (⟨"SheetKernelModel", "areFree", "(III)Z"⟩, 22) := ⟨⟨by decide +kernel, by decide +kernel⟩, List.mem_of_getElem? (i := 718) (by decide +kernel), List.mem_of_getElem? (i := 814) (by decide +kernel), List.mem_of_getElem? (i := 815) (by decide +kernel)⟩
theorem lw_p30 : lw_okq (⟨"SheetKernelModel", "newSheet", "()I"⟩, 22) := ⟨⟨by decide +kernel, by decide +kernel⟩, List.mem_of_getElem? (i := 718) (by decide +kernel), List.mem_of_getElem? (i := 818) (by decide +kernel), List.mem_of_getElem? (i := 819) (by decide +kernel)⟩
theorem lw_p31 : lw_okq (⟨"SheetKernelModel", "areMapped", "(III)Z"⟩, 22) := ⟨⟨by decide +kernel, by decide +kernel⟩, List.mem_of_getElem? (i := 718) (by decide +kernel), List.mem_of_getElem? (i := 826) (by decide +kernel), List.mem_of_getElem? (i := 827) (by decide +kernel)⟩
def lw_privs_2 : List (MethodName × Nat) := [(⟨"SheetKernel", "putAway", "(I)Z"⟩, 5), (⟨"SheetKernel", "storeInSlots", "(LSheetKernel$Sheet;)Z"⟩, 5), (⟨"SheetKernel", "isValuable", "(LSheetKernel$Sheet;)Z"⟩, 5), (⟨"SheetKernel", "whoEnds", "(LSheetKernel$Task;)LSheetKernel$Task;"⟩, 5), (⟨"SheetKernel", "bringIn", "(LSheetKernel$Sheet;I)V"⟩, 5), (⟨"SheetKernel", "copyInto", "(LSheetKernel$Task;II)LSheetKernel$Sheet;"⟩, 5), (⟨"SheetKernel", "throwUntouched", "(LSheetKernel$Task;)V"⟩, 5), (⟨"SheetKernel", "put", "(IIII)V"⟩, 5), (⟨"SheetKernel", "endRefused", "(LSheetKernel$Task;)V"⟩, 5), (⟨"SheetKernel", "perform", "(LSheetKernel$Task;I)V"⟩, 5), (⟨"SheetKernel", "forkInto", "(LSheetKernel$Task;I)V"⟩, 5), (⟨"SheetKernelModel", "fresh", "()I"⟩, 22), (⟨"SheetKernelModel", "isLiving", "(I)Z"⟩, 22), (⟨"SheetKernelModel", "areFree", "(III)Z"⟩, 22), (⟨"SheetKernelModel", "newSheet", "()I"⟩, 22), (⟨"SheetKernelModel", "areMapped", "(III)Z"⟩, 22)]
theorem lw_r2 : ∀ q ∈ lw_privs_2, lw_okq q := List.forall_mem_cons.mpr ⟨lw_p16, List.forall_mem_cons.mpr ⟨lw_p17, List.forall_mem_cons.mpr ⟨lw_p18, List.forall_mem_cons.mpr ⟨lw_p19, List.forall_mem_cons.mpr ⟨lw_p20, List.forall_mem_cons.mpr ⟨lw_p21, List.forall_mem_cons.mpr ⟨lw_p22, List.forall_mem_cons.mpr ⟨lw_p23, List.forall_mem_cons.mpr ⟨lw_p24, List.forall_mem_cons.mpr ⟨lw_p25, List.forall_mem_cons.mpr ⟨lw_p26, List.forall_mem_cons.mpr ⟨lw_p27, List.forall_mem_cons.mpr ⟨lw_p28, List.forall_mem_cons.mpr ⟨lw_p29, List.forall_mem_cons.mpr ⟨lw_p30, List.forall_mem_cons.mpr ⟨lw_p31, fun _ h => absurd h List.not_mem_nil⟩⟩⟩⟩⟩⟩⟩⟩⟩⟩⟩⟩⟩⟩⟩⟩
theorem lw_p32 : lw_okq (⟨"SheetKernelModel", "mappings", "(I)I"⟩, 22) := ⟨⟨by decide +kernel, by decide +kernel⟩, List.mem_of_getElem? (i := 718) (by decide +kernel), List.mem_of_getElem? (i := 830) (by decide +kernel), List.mem_of_getElem? (i := 831) (by decide +kernel)⟩
theorem lw_p33 : lw_okq (⟨"SheetKernelModel", "unmap", "(I)V"⟩, 22) := ⟨⟨by decide +kernel, by decide +kernel⟩, List.mem_of_getElem? (i := 718) (by decide +kernel), List.mem_of_getElem? (i := 838) (by decide +kernel), List.mem_of_getElem? (i := 839) (by decide +kernel)⟩
theorem lw_p34 : lw_okq (⟨"SheetKernelModel", "frameOf", "(I)I"⟩, 22) := ⟨⟨by decide +kernel, by decide +kernel⟩, List.mem_of_getElem? (i := 718) (by decide +kernel), List.mem_of_getElem? (i := 842) (by decide +kernel), List.mem_of_getElem? (i := 843) (by decide +kernel)⟩
theorem lw_p35 : lw_okq (⟨"SheetKernelModel", "clearFrame", "(I)V"⟩, 22) := ⟨⟨by decide +kernel, by decide +kernel⟩, List.mem_of_getElem? (i := 718) (by decide +kernel), List.mem_of_getElem? (i := 846) (by decide +kernel), List.mem_of_getElem? (i := 847) (by decide +kernel)⟩
theorem lw_p36 : lw_okq (⟨"SheetKernelModel", "freeSlots", "(I)V"⟩, 22) := ⟨⟨by decide +kernel, by decide +kernel⟩, List.mem_of_getElem? (i := 718) (by decide +kernel), List.mem_of_getElem? (i := 850) (by decide +kernel), List.mem_of_getElem? (i := 851) (by decide +kernel)⟩
theorem lw_p37 : lw_okq (⟨"SheetKernelModel", "freeSlot", "(I)V"⟩, 22) := ⟨⟨by decide +kernel, by decide +kernel⟩, List.mem_of_getElem? (i := 718) (by decide +kernel), List.mem_of_getElem? (i := 854) (by decide +kernel), List.mem_of_getElem? (i := 855) (by decide +kernel)⟩
theorem lw_p38 : lw_okq (⟨"SheetKernelModel", "divide", "(I)I"⟩, 22) := ⟨⟨by decide +kernel, by decide +kernel⟩, List.mem_of_getElem? (i := 718) (by decide +kernel), List.mem_of_getElem? (i := 862) (by decide +kernel), List.mem_of_getElem? (i := 863) (by decide +kernel)⟩
theorem lw_p39 : lw_okq (⟨"SheetKernelModel", "end", "(II)V"⟩, 22) := ⟨⟨by decide +kernel, by decide +kernel⟩, List.mem_of_getElem? (i := 718) (by decide +kernel), List.mem_of_getElem? (i := 870) (by decide +kernel), List.mem_of_getElem? (i := 871) (by decide +kernel)⟩
theorem lw_p40 : lw_okq (⟨"SheetKernelModel", "access", "(IIZZ)I"⟩, 22) := ⟨⟨by decide +kernel, by decide +kernel⟩, List.mem_of_getElem? (i := 718) (by decide +kernel), List.mem_of_getElem? (i := 878) (by decide +kernel), List.mem_of_getElem? (i := 879) (by decide +kernel)⟩
theorem lw_p41 : lw_okq (⟨"SheetKernelModel", "touch", "(IIZZ)I"⟩, 22) := ⟨⟨by decide +kernel, by decide +kernel⟩, List.mem_of_getElem? (i := 718) (by decide +kernel), List.mem_of_getElem? (i := 882) (by decide +kernel), List.mem_of_getElem? (i := 883) (by decide +kernel)⟩
theorem lw_p42 : lw_okq (⟨"SheetKernelModel", "bring", "(II)I"⟩, 22) := ⟨⟨by decide +kernel, by decide +kernel⟩, List.mem_of_getElem? (i := 718) (by decide +kernel), List.mem_of_getElem? (i := 886) (by decide +kernel), List.mem_of_getElem? (i := 887) (by decide +kernel)⟩
theorem lw_p43 : lw_okq (⟨"SheetKernelModel", "isGone", "(I)Z"⟩, 22) := ⟨⟨by decide +kernel, by decide +kernel⟩, List.mem_of_getElem? (i := 718) (by decide +kernel), List.mem_of_getElem? (i := 890) (by decide +kernel), List.mem_of_getElem? (i := 891) (by decide +kernel)⟩
theorem lw_p44 : lw_okq (⟨"SheetKernelModel", "slotNumber", "(II)I"⟩, 22) := ⟨⟨by decide +kernel, by decide +kernel⟩, List.mem_of_getElem? (i := 718) (by decide +kernel), List.mem_of_getElem? (i := 894) (by decide +kernel), List.mem_of_getElem? (i := 895) (by decide +kernel)⟩
theorem lw_p45 : lw_okq (⟨"SheetKernelModel", "fault", "(II)V"⟩, 22) := ⟨⟨by decide +kernel, by decide +kernel⟩, List.mem_of_getElem? (i := 718) (by decide +kernel), List.mem_of_getElem? (i := 898) (by decide +kernel), List.mem_of_getElem? (i := 899) (by decide +kernel)⟩
theorem lw_p46 : lw_okq (⟨"SheetKernelModel", "findFrame", "(II)I"⟩, 22) := ⟨⟨by decide +kernel, by decide +kernel⟩, List.mem_of_getElem? (i := 718) (by decide +kernel), List.mem_of_getElem? (i := 902) (by decide +kernel), List.mem_of_getElem? (i := 903) (by decide +kernel)⟩
theorem lw_p47 : lw_okq (⟨"SheetKernelModel", "empty", "(I)Z"⟩, 22) := ⟨⟨by decide +kernel, by decide +kernel⟩, List.mem_of_getElem? (i := 718) (by decide +kernel), List.mem_of_getElem? (i := 906) (by decide +kernel), List.mem_of_getElem? (i := 907) (by decide +kernel)⟩
def lw_privs_3 : List (MethodName × Nat) := [(⟨"SheetKernelModel", "mappings", "(I)I"⟩, 22), (⟨"SheetKernelModel", "unmap", "(I)V"⟩, 22), (⟨"SheetKernelModel", "frameOf", "(I)I"⟩, 22), (⟨"SheetKernelModel", "clearFrame", "(I)V"⟩, 22), (⟨"SheetKernelModel", "freeSlots", "(I)V"⟩, 22), (⟨"SheetKernelModel", "freeSlot", "(I)V"⟩, 22), (⟨"SheetKernelModel", "divide", "(I)I"⟩, 22), (⟨"SheetKernelModel", "end", "(II)V"⟩, 22), (⟨"SheetKernelModel", "access", "(IIZZ)I"⟩, 22), (⟨"SheetKernelModel", "touch", "(IIZZ)I"⟩, 22), (⟨"SheetKernelModel", "bring", "(II)I"⟩, 22), (⟨"SheetKernelModel", "isGone", "(I)Z"⟩, 22), (⟨"SheetKernelModel", "slotNumber", "(II)I"⟩, 22), (⟨"SheetKernelModel", "fault", "(II)V"⟩, 22), (⟨"SheetKernelModel", "findFrame", "(II)I"⟩, 22), (⟨"SheetKernelModel", "empty", "(I)Z"⟩, 22)]
theorem lw_r3 : ∀ q ∈ lw_privs_3, lw_okq q := List.forall_mem_cons.mpr ⟨lw_p32, List.forall_mem_cons.mpr ⟨lw_p33, List.forall_mem_cons.mpr ⟨lw_p34, List.forall_mem_cons.mpr ⟨lw_p35, List.forall_mem_cons.mpr ⟨lw_p36, List.forall_mem_cons.mpr ⟨lw_p37, List.forall_mem_cons.mpr ⟨lw_p38, List.forall_mem_cons.mpr ⟨lw_p39, List.forall_mem_cons.mpr ⟨lw_p40, List.forall_mem_cons.mpr ⟨lw_p41, List.forall_mem_cons.mpr ⟨lw_p42, List.forall_mem_cons.mpr ⟨lw_p43, List.forall_mem_cons.mpr ⟨lw_p44, List.forall_mem_cons.mpr ⟨lw_p45, List.forall_mem_cons.mpr ⟨lw_p46, List.forall_mem_cons.mpr ⟨lw_p47, fun _ h => absurd h List.not_mem_nil⟩⟩⟩⟩⟩⟩⟩⟩⟩⟩⟩⟩⟩⟩⟩⟩
theorem lw_p48 : lw_okq (⟨"SheetKernelModel", "packs", "(I)I"⟩, 22) := ⟨⟨by decide +kernel, by decide +kernel⟩, List.mem_of_getElem? (i := 718) (by decide +kernel), List.mem_of_getElem? (i := 910) (by decide +kernel), List.mem_of_getElem? (i := 911) (by decide +kernel)⟩
theorem lw_p49 : lw_okq (⟨"SheetKernelModel", "room", "(I)I"⟩, 22) := ⟨⟨by decide +kernel, by decide +kernel⟩, List.mem_of_getElem? (i := 718) (by decide +kernel), List.mem_of_getElem? (i := 914) (by decide +kernel), List.mem_of_getElem? (i := 915) (by decide +kernel)⟩
theorem lw_p50 : lw_okq (⟨"SheetKernelModel", "isTaken", "(I)Z"⟩, 22) := ⟨⟨by decide +kernel, by decide +kernel⟩, List.mem_of_getElem? (i := 718) (by decide +kernel), List.mem_of_getElem? (i := 918) (by decide +kernel), List.mem_of_getElem? (i := 919) (by decide +kernel)⟩
theorem lw_p51 : lw_okq (⟨"SheetKernelModel", "writeSlot", "()I"⟩, 22) := ⟨⟨by decide +kernel, by decide +kernel⟩, List.mem_of_getElem? (i := 718) (by decide +kernel), List.mem_of_getElem? (i := 922) (by decide +kernel), List.mem_of_getElem? (i := 923) (by decide +kernel)⟩
theorem lw_p52 : lw_okq (⟨"SheetKernelModel", "isValuable", "(I)Z"⟩, 22) := ⟨⟨by decide +kernel, by decide +kernel⟩, List.mem_of_getElem? (i := 718) (by decide +kernel), List.mem_of_getElem? (i := 926) (by decide +kernel), List.mem_of_getElem? (i := 927) (by decide +kernel)⟩
theorem lw_p53 : lw_okq (⟨"SheetKernelModel", "goOn", "(I)V"⟩, 22) := ⟨⟨by decide +kernel, by decide +kernel⟩, List.mem_of_getElem? (i := 718) (by decide +kernel), List.mem_of_getElem? (i := 930) (by decide +kernel), List.mem_of_getElem? (i := 931) (by decide +kernel)⟩
theorem lw_p54 : lw_okq (⟨"SheetKernelModel", "victim", "(I)I"⟩, 22) := ⟨⟨by decide +kernel, by decide +kernel⟩, List.mem_of_getElem? (i := 718) (by decide +kernel), List.mem_of_getElem? (i := 934) (by decide +kernel), List.mem_of_getElem? (i := 935) (by decide +kernel)⟩
theorem lw_p55 : lw_okq (⟨"SheetKernelModel", "privates", "(I)I"⟩, 22) := ⟨⟨by decide +kernel, by decide +kernel⟩, List.mem_of_getElem? (i := 718) (by decide +kernel), List.mem_of_getElem? (i := 938) (by decide +kernel), List.mem_of_getElem? (i := 939) (by decide +kernel)⟩
theorem lw_p56 : lw_okq (⟨"SheetKernelModel", "step", "(I)V"⟩, 22) := ⟨⟨by decide +kernel, by decide +kernel⟩, List.mem_of_getElem? (i := 718) (by decide +kernel), List.mem_of_getElem? (i := 954) (by decide +kernel), List.mem_of_getElem? (i := 955) (by decide +kernel)⟩
theorem lw_p57 : lw_okq (⟨"SheetKernelModel", "reaches", "(IIZ)Z"⟩, 22) := ⟨⟨by decide +kernel, by decide +kernel⟩, List.mem_of_getElem? (i := 718) (by decide +kernel), List.mem_of_getElem? (i := 958) (by decide +kernel), List.mem_of_getElem? (i := 959) (by decide +kernel)⟩
theorem lw_p58 : lw_okq (⟨"SheetKernelModel", "freeFrames", "()I"⟩, 22) := ⟨⟨by decide +kernel, by decide +kernel⟩, List.mem_of_getElem? (i := 718) (by decide +kernel), List.mem_of_getElem? (i := 974) (by decide +kernel), List.mem_of_getElem? (i := 975) (by decide +kernel)⟩
def lw_privs_4 : List (MethodName × Nat) := [(⟨"SheetKernelModel", "packs", "(I)I"⟩, 22), (⟨"SheetKernelModel", "room", "(I)I"⟩, 22), (⟨"SheetKernelModel", "isTaken", "(I)Z"⟩, 22), (⟨"SheetKernelModel", "writeSlot", "()I"⟩, 22), (⟨"SheetKernelModel", "isValuable", "(I)Z"⟩, 22), (⟨"SheetKernelModel", "goOn", "(I)V"⟩, 22), (⟨"SheetKernelModel", "victim", "(I)I"⟩, 22), (⟨"SheetKernelModel", "privates", "(I)I"⟩, 22), (⟨"SheetKernelModel", "step", "(I)V"⟩, 22), (⟨"SheetKernelModel", "reaches", "(IIZ)Z"⟩, 22), (⟨"SheetKernelModel", "freeFrames", "()I"⟩, 22)]
theorem lw_r4 : ∀ q ∈ lw_privs_4, lw_okq q := List.forall_mem_cons.mpr ⟨lw_p48, List.forall_mem_cons.mpr ⟨lw_p49, List.forall_mem_cons.mpr ⟨lw_p50, List.forall_mem_cons.mpr ⟨lw_p51, List.forall_mem_cons.mpr ⟨lw_p52, List.forall_mem_cons.mpr ⟨lw_p53, List.forall_mem_cons.mpr ⟨lw_p54, List.forall_mem_cons.mpr ⟨lw_p55, List.forall_mem_cons.mpr ⟨lw_p56, List.forall_mem_cons.mpr ⟨lw_p57, List.forall_mem_cons.mpr ⟨lw_p58, fun _ h => absurd h List.not_mem_nil⟩⟩⟩⟩⟩⟩⟩⟩⟩⟩⟩
def lw_privs : List (MethodName × Nat) := lw_privs_1 ++ (lw_privs_2 ++ (lw_privs_3 ++ (lw_privs_4)))
def lw_tbl : List Cond := k2_sels lw_privs ++ tables_1
theorem lw_privs_ok : ∀ q ∈ lw_privs, lw_okq q := by
  show ∀ q ∈ lw_privs_1 ++ (lw_privs_2 ++ (lw_privs_3 ++ (lw_privs_4))), lw_okq q
  exact List.forall_mem_append.mpr ⟨lw_r1, List.forall_mem_append.mpr ⟨lw_r2, List.forall_mem_append.mpr ⟨lw_r3, lw_r4⟩⟩⟩
def RX0 : String := "SheetKernel$Arena"
def TX0 : u_T := fun k => match k with
  | 0 => ("SheetKernel$Arena", "taken", "[Z", true)
  | 1 => ("SheetKernel$Arena", "claims", "[I", true)
  | _ => ("SheetKernel$Arena", "packed", "I", false)
def tyX0 : Nat → FieldType := fun k => match k with
  | 0 => .array .boolean
  | 1 => .array .int
  | _ => .int
abbrev wsX00 : List Cond := u_ws RX0 TX0 3
theorem nmX0 : ∀ a, a < 3 → ∀ b, b < 3 → a ≠ b → (TX0 a).2.1 ≠ (TX0 b).2.1 := by decide +kernel
theorem tyX0_ok : ∀ k, k < 3 → parseFieldDescriptor (TX0 k).2.2.1 = some (tyX0 k) := by decide +kernel
abbrev cX0_init : ByteArray := prog_2_method_1_code
def yX0_init : MethodName := ⟨RX0, "<init>", "()V"⟩
abbrev cX0_pack : ByteArray := prog_2_method_2_code
def yX0_pack : MethodName := ⟨RX0, "pack", "(LSheetKernel$Sheet;)Z"⟩
abbrev cX0_unpack : ByteArray := prog_2_method_3_code
def yX0_unpack : MethodName := ⟨RX0, "unpack", "(LSheetKernel$Sheet;)V"⟩
abbrev cX0_lowestRow : ByteArray := prog_2_method_4_code
def yX0_lowestRow : MethodName := ⟨RX0, "lowestRow", "(I)I"⟩
abbrev cX0_longestRow : ByteArray := prog_2_method_5_code
def yX0_longestRow : MethodName := ⟨RX0, "longestRow", "()I"⟩
abbrev cX0_takenBytes : ByteArray := prog_2_method_6_code
def yX0_takenBytes : MethodName := ⟨RX0, "takenBytes", "()I"⟩
abbrev cX0_clearClaims : ByteArray := prog_2_method_7_code
def yX0_clearClaims : MethodName := ⟨RX0, "clearClaims", "()V"⟩
abbrev cX0_claim : ByteArray := prog_2_method_8_code
def yX0_claim : MethodName := ⟨RX0, "claim", "(LSheetKernel$Sheet;)V"⟩
abbrev cX0_wrongClaims : ByteArray := prog_2_method_9_code
def yX0_wrongClaims : MethodName := ⟨RX0, "wrongClaims", "()I"⟩
def RX1 : String := "SheetKernel$Disk"
def TX1 : u_T := fun k => match k with
  | 0 => ("SheetKernel$Disk", "state", "[I", true)
  | 1 => ("SheetKernel$Disk", "fails", "[Z", true)
  | 2 => ("SheetKernel$Disk", "lost", "[Z", true)
  | _ => ("SheetKernel$Disk", "claims", "[I", true)
def tyX1 : Nat → FieldType := fun k => match k with
  | 0 => .array .int
  | 1 => .array .boolean
  | 2 => .array .boolean
  | _ => .array .int
abbrev wsX10 : List Cond := u_ws RX1 TX1 4
theorem nmX1 : ∀ a, a < 4 → ∀ b, b < 4 → a ≠ b → (TX1 a).2.1 ≠ (TX1 b).2.1 := by decide +kernel
theorem tyX1_ok : ∀ k, k < 4 → parseFieldDescriptor (TX1 k).2.2.1 = some (tyX1 k) := by decide +kernel
abbrev cX1_init : ByteArray := prog_3_method_1_code
def yX1_init : MethodName := ⟨RX1, "<init>", "()V"⟩
abbrev cX1_countFree : ByteArray := prog_3_method_2_code
def yX1_countFree : MethodName := ⟨RX1, "countFree", "()I"⟩
abbrev cX1_mend : ByteArray := prog_3_method_3_code
def yX1_mend : MethodName := ⟨RX1, "mend", "(I)V"⟩
abbrev cX1_takeLowest : ByteArray := prog_3_method_4_code
def yX1_takeLowest : MethodName := ⟨RX1, "takeLowest", "()I"⟩
abbrev cX1_isGone : ByteArray := prog_3_method_5_code
def yX1_isGone : MethodName := ⟨RX1, "isGone", "(I)Z"⟩
abbrev cX1_release : ByteArray := prog_3_method_6_code
def yX1_release : MethodName := ⟨RX1, "release", "(I)V"⟩
abbrev cX1_giveBack : ByteArray := prog_3_method_7_code
def yX1_giveBack : MethodName := ⟨RX1, "giveBack", "(LSheetKernel$Sheet;)V"⟩
abbrev cX1_giveBackLost : ByteArray := prog_3_method_8_code
def yX1_giveBackLost : MethodName := ⟨RX1, "giveBackLost", "(LSheetKernel$Sheet;)V"⟩
abbrev cX1_clearClaims : ByteArray := prog_3_method_9_code
def yX1_clearClaims : MethodName := ⟨RX1, "clearClaims", "()V"⟩
abbrev cX1_claim : ByteArray := prog_3_method_10_code
def yX1_claim : MethodName := ⟨RX1, "claim", "(I)V"⟩
abbrev cX1_wrongClaims : ByteArray := prog_3_method_11_code
def yX1_wrongClaims : MethodName := ⟨RX1, "wrongClaims", "()I"⟩
def RX2 : String := "SheetKernel$Frames"
def TX2 : u_T := fun k => match k with
  | 0 => ("SheetKernel$Frames", "sheets", "[LSheetKernel$Sheet;", true)
  | 1 => ("SheetKernel$Frames", "used", "[Z", true)
  | 2 => ("SheetKernel$Frames", "changed", "[Z", true)
  | _ => ("SheetKernel$Frames", "hand", "I", false)
def tyX2 : Nat → FieldType := fun k => match k with
  | 0 => .array (.object "SheetKernel$Sheet")
  | 1 => .array .boolean
  | 2 => .array .boolean
  | _ => .int
abbrev wsX20 : List Cond := u_ws RX2 TX2 4
theorem nmX2 : ∀ a, a < 4 → ∀ b, b < 4 → a ≠ b → (TX2 a).2.1 ≠ (TX2 b).2.1 := by decide +kernel
theorem tyX2_ok : ∀ k, k < 4 → parseFieldDescriptor (TX2 k).2.2.1 = some (tyX2 k) := by decide +kernel
abbrev cX2_init : ByteArray := prog_4_method_1_code
def yX2_init : MethodName := ⟨RX2, "<init>", "()V"⟩
abbrev cX2_vacant : ByteArray := prog_4_method_2_code
def yX2_vacant : MethodName := ⟨RX2, "vacant", "()I"⟩
abbrev cX2_lowestVacant : ByteArray := prog_4_method_3_code
def yX2_lowestVacant : MethodName := ⟨RX2, "lowestVacant", "()I"⟩
abbrev cX2_seat : ByteArray := prog_4_method_4_code
def yX2_seat : MethodName := ⟨RX2, "seat", "(LSheetKernel$Sheet;I)V"⟩
abbrev cX2_touched : ByteArray := prog_4_method_5_code
def yX2_touched : MethodName := ⟨RX2, "touched", "(IZ)V"⟩
abbrev cX2_vacate : ByteArray := prog_4_method_6_code
def yX2_vacate : MethodName := ⟨RX2, "vacate", "(I)V"⟩
abbrev cX2_unmark : ByteArray := prog_4_method_7_code
def yX2_unmark : MethodName := ⟨RX2, "unmark", "(I)Z"⟩
abbrev cX2_moveHand : ByteArray := prog_4_method_8_code
def yX2_moveHand : MethodName := ⟨RX2, "moveHand", "(I)V"⟩
def RX3 : String := "SheetKernel$Sheet"
def TX3 : u_T := fun k => match k with
  | 0 => ("SheetKernel$Sheet", "words", "[I", true)
  | 1 => ("SheetKernel$Sheet", "mappings", "I", false)
  | 2 => ("SheetKernel$Sheet", "place", "I", false)
  | 3 => ("SheetKernel$Sheet", "at", "I", false)
  | 4 => ("SheetKernel$Sheet", "bytes", "I", false)
  | 5 => ("SheetKernel$Sheet", "lower", "I", false)
  | 6 => ("SheetKernel$Sheet", "upper", "I", false)
  | _ => ("SheetKernel$Sheet", "seen", "I", false)
def tyX3 : Nat → FieldType := fun k => match k with
  | 0 => .array .int
  | 1 => .int
  | 2 => .int
  | 3 => .int
  | 4 => .int
  | 5 => .int
  | 6 => .int
  | _ => .int
abbrev wsX30 : List Cond := u_ws RX3 TX3 8
theorem nmX3 : ∀ a, a < 8 → ∀ b, b < 8 → a ≠ b → (TX3 a).2.1 ≠ (TX3 b).2.1 := by decide +kernel
theorem tyX3_ok : ∀ k, k < 8 → parseFieldDescriptor (TX3 k).2.2.1 = some (tyX3 k) := by decide +kernel
abbrev cX3_init : ByteArray := prog_5_method_1_code
def yX3_init : MethodName := ⟨RX3, "<init>", "()V"⟩
abbrev cX3_clear : ByteArray := prog_5_method_2_code
def yX3_clear : MethodName := ⟨RX3, "clear", "()V"⟩
abbrev cX3_faultKind : ByteArray := prog_5_method_3_code
def yX3_faultKind : MethodName := ⟨RX3, "faultKind", "()I"⟩
abbrev cX3_packedBytes : ByteArray := prog_5_method_4_code
def yX3_packedBytes : MethodName := ⟨RX3, "packedBytes", "()I"⟩
abbrev cX3_told : ByteArray := prog_5_method_5_code
def yX3_told : MethodName := ⟨RX3, "told", "(I)I"⟩
def RX4 : String := "SheetKernel$Sheets"
def TX4 : u_T := fun k => match k with
  | 0 => ("SheetKernel$Sheets", "all", "[LSheetKernel$Sheet;", true)
  | 1 => ("SheetKernel$Sheets", "spare", "[LSheetKernel$Sheet;", true)
  | _ => ("SheetKernel$Sheets", "spares", "I", false)
def tyX4 : Nat → FieldType := fun k => match k with
  | 0 => .array (.object "SheetKernel$Sheet")
  | 1 => .array (.object "SheetKernel$Sheet")
  | _ => .int
abbrev wsX40 : List Cond := u_ws RX4 TX4 3
theorem nmX4 : ∀ a, a < 3 → ∀ b, b < 3 → a ≠ b → (TX4 a).2.1 ≠ (TX4 b).2.1 := by decide +kernel
theorem tyX4_ok : ∀ k, k < 3 → parseFieldDescriptor (TX4 k).2.2.1 = some (tyX4 k) := by decide +kernel
abbrev cX4_init : ByteArray := prog_6_method_1_code
def yX4_init : MethodName := ⟨RX4, "<init>", "()V"⟩
abbrev cX4_take : ByteArray := prog_6_method_2_code
def yX4_take : MethodName := ⟨RX4, "take", "()LSheetKernel$Sheet;"⟩
abbrev cX4_giveBack : ByteArray := prog_6_method_3_code
def yX4_giveBack : MethodName := ⟨RX4, "giveBack", "(LSheetKernel$Sheet;)V"⟩
def RX5 : String := "SheetKernel$Task"
def TX5 : u_T := fun k => match k with
  | 0 => ("SheetKernel$Task", "registers", "[I", true)
  | 1 => ("SheetKernel$Task", "faults", "[I", true)
  | 2 => ("SheetKernel$Task", "kinds", "[I", true)
  | 3 => ("SheetKernel$Task", "sheets", "[LSheetKernel$Sheet;", true)
  | 4 => ("SheetKernel$Task", "lives", "Z", false)
  | 5 => ("SheetKernel$Task", "valuable", "Z", false)
  | 6 => ("SheetKernel$Task", "counter", "I", false)
  | _ => ("SheetKernel$Task", "reason", "I", false)
def tyX5 : Nat → FieldType := fun k => match k with
  | 0 => .array .int
  | 1 => .array .int
  | 2 => .array .int
  | 3 => .array (.object "SheetKernel$Sheet")
  | 4 => .boolean
  | 5 => .boolean
  | 6 => .int
  | _ => .int
abbrev wsX50 : List Cond := u_ws RX5 TX5 8
theorem nmX5 : ∀ a, a < 8 → ∀ b, b < 8 → a ≠ b → (TX5 a).2.1 ≠ (TX5 b).2.1 := by decide +kernel
theorem tyX5_ok : ∀ k, k < 8 → parseFieldDescriptor (TX5 k).2.2.1 = some (tyX5 k) := by decide +kernel
abbrev cX5_init : ByteArray := prog_7_method_1_code
def yX5_init : MethodName := ⟨RX5, "<init>", "()V"⟩
abbrev cX5_begin : ByteArray := prog_7_method_2_code
def yX5_begin : MethodName := ⟨RX5, "begin", "()V"⟩
abbrev cX5_map : ByteArray := prog_7_method_3_code
def yX5_map : MethodName := ⟨RX5, "map", "(ILSheetKernel$Sheet;I)V"⟩
abbrev cX5_sheetFor : ByteArray := prog_7_method_4_code
def yX5_sheetFor : MethodName := ⟨RX5, "sheetFor", "(II)LSheetKernel$Sheet;"⟩
abbrev cX5_mayMapAgain : ByteArray := prog_7_method_5_code
def yX5_mayMapAgain : MethodName := ⟨RX5, "mayMapAgain", "(II)Z"⟩
abbrev cX5_mappedPages : ByteArray := prog_7_method_6_code
def yX5_mappedPages : MethodName := ⟨RX5, "mappedPages", "()I"⟩
abbrev cX5_ownPages : ByteArray := prog_7_method_7_code
def yX5_ownPages : MethodName := ⟨RX5, "ownPages", "()I"⟩
abbrev cX5_told : ByteArray := prog_7_method_8_code
def yX5_told : MethodName := ⟨RX5, "told", "(I)I"⟩
def RX6 : String := "SheetKernel"
def TX6 : u_T := fun k => match k with
  | 0 => ("SheetKernel", "tasks", "[LSheetKernel$Task;", true)
  | 1 => ("SheetKernel", "store", "LSheetKernel$Sheets;", true)
  | 2 => ("SheetKernel", "frames", "LSheetKernel$Frames;", true)
  | 3 => ("SheetKernel", "arena", "LSheetKernel$Arena;", true)
  | _ => ("SheetKernel", "disk", "LSheetKernel$Disk;", true)
def tyX6 : Nat → FieldType := fun k => match k with
  | 0 => .array (.object "SheetKernel$Task")
  | 1 => .object "SheetKernel$Sheets"
  | 2 => .object "SheetKernel$Frames"
  | 3 => .object "SheetKernel$Arena"
  | _ => .object "SheetKernel$Disk"
abbrev wsX60 : List Cond := u_ws RX6 TX6 5
theorem nmX6 : ∀ a, a < 5 → ∀ b, b < 5 → a ≠ b → (TX6 a).2.1 ≠ (TX6 b).2.1 := by decide +kernel
theorem tyX6_ok : ∀ k, k < 5 → parseFieldDescriptor (TX6 k).2.2.1 = some (tyX6 k) := by decide +kernel
abbrev cX6_init : ByteArray := prog_1_method_1_code
def yX6_init : MethodName := ⟨RX6, "<init>", "()V"⟩
abbrev cX6_spawn : ByteArray := prog_1_method_2_code
def yX6_spawn : MethodName := ⟨RX6, "spawn", "()I"⟩
abbrev cX6_area : ByteArray := prog_1_method_3_code
def yX6_area : MethodName := ⟨RX6, "area", "(IIII)V"⟩
abbrev cX6_share : ByteArray := prog_1_method_4_code
def yX6_share : MethodName := ⟨RX6, "share", "(IIIII)V"⟩
abbrev cX6_free : ByteArray := prog_1_method_5_code
def yX6_free : MethodName := ⟨RX6, "free", "(III)V"⟩
abbrev cX6_fork : ByteArray := prog_1_method_6_code
def yX6_fork : MethodName := ⟨RX6, "fork", "(I)I"⟩
abbrev cX6_exit : ByteArray := prog_1_method_7_code
def yX6_exit : MethodName := ⟨RX6, "exit", "(I)V"⟩
abbrev cX6_valuable : ByteArray := prog_1_method_8_code
def yX6_valuable : MethodName := ⟨RX6, "valuable", "(IZ)V"⟩
abbrev cX6_read : ByteArray := prog_1_method_9_code
def yX6_read : MethodName := ⟨RX6, "read", "(II)I"⟩
abbrev cX6_write : ByteArray := prog_1_method_10_code
def yX6_write : MethodName := ⟨RX6, "write", "(III)V"⟩
abbrev cX6_load : ByteArray := prog_1_method_11_code
def yX6_load : MethodName := ⟨RX6, "load", "(III)V"⟩
abbrev cX6_run : ByteArray := prog_1_method_12_code
def yX6_run : MethodName := ⟨RX6, "run", "(II)I"⟩
abbrev cX6_slot : ByteArray := prog_1_method_13_code
def yX6_slot : MethodName := ⟨RX6, "slot", "(II)V"⟩
abbrev cX6_tick : ByteArray := prog_1_method_14_code
def yX6_tick : MethodName := ⟨RX6, "tick", "()V"⟩
abbrev cX6_about : ByteArray := prog_1_method_15_code
def yX6_about : MethodName := ⟨RX6, "about", "(II)I"⟩
abbrev cX6_page : ByteArray := prog_1_method_16_code
def yX6_page : MethodName := ⟨RX6, "page", "(III)I"⟩
abbrev cX6_frame : ByteArray := prog_1_method_17_code
def yX6_frame : MethodName := ⟨RX6, "frame", "(I)I"⟩
abbrev cX6_slots : ByteArray := prog_1_method_18_code
def yX6_slots : MethodName := ⟨RX6, "slots", "(I)I"⟩
abbrev cX6_pool : ByteArray := prog_1_method_19_code
def yX6_pool : MethodName := ⟨RX6, "pool", "(I)I"⟩
abbrev cX6_broken : ByteArray := prog_1_method_20_code
def yX6_broken : MethodName := ⟨RX6, "broken", "()I"⟩
abbrev cX6_living : ByteArray := prog_1_method_21_code
def yX6_living : MethodName := ⟨RX6, "living", "(I)LSheetKernel$Task;"⟩
abbrev cX6_needPage : ByteArray := prog_1_method_22_code
def yX6_needPage : MethodName := ⟨RX6, "needPage", "(I)V"⟩
abbrev cX6_needAddress : ByteArray := prog_1_method_23_code
def yX6_needAddress : MethodName := ⟨RX6, "needAddress", "(I)V"⟩
abbrev cX6_needCount : ByteArray := prog_1_method_24_code
def yX6_needCount : MethodName := ⟨RX6, "needCount", "(I)V"⟩
abbrev cX6_needUnmapped : ByteArray := prog_1_method_25_code
def yX6_needUnmapped : MethodName := ⟨RX6, "needUnmapped", "(LSheetKernel$Task;II)V"⟩
abbrev cX6_needMapped : ByteArray := prog_1_method_26_code
def yX6_needMapped : MethodName := ⟨RX6, "needMapped", "(LSheetKernel$Task;II)V"⟩
abbrev cX6_needShared : ByteArray := prog_1_method_27_code
def yX6_needShared : MethodName := ⟨RX6, "needShared", "(LSheetKernel$Task;II)V"⟩
abbrev cX6_lowestNotLiving : ByteArray := prog_1_method_28_code
def yX6_lowestNotLiving : MethodName := ⟨RX6, "lowestNotLiving", "()I"⟩
abbrev cX6_doubled : ByteArray := prog_1_method_29_code
def yX6_doubled : MethodName := ⟨RX6, "doubled", "(LSheetKernel$Task;)I"⟩
abbrev cX6_endTask : ByteArray := prog_1_method_30_code
def yX6_endTask : MethodName := ⟨RX6, "endTask", "(LSheetKernel$Task;I)V"⟩
abbrev cX6_unmap : ByteArray := prog_1_method_31_code
def yX6_unmap : MethodName := ⟨RX6, "unmap", "(LSheetKernel$Task;I)V"⟩
abbrev cX6_touch : ByteArray := prog_1_method_32_code
def yX6_touch : MethodName := ⟨RX6, "touch", "(LSheetKernel$Task;II)LSheetKernel$Sheet;"⟩
abbrev cX6_startFault : ByteArray := prog_1_method_33_code
def yX6_startFault : MethodName := ⟨RX6, "startFault", "(LSheetKernel$Task;LSheetKernel$Sheet;)Z"⟩
abbrev cX6_bringIn : ByteArray := prog_1_method_34_code
def yX6_bringIn : MethodName := ⟨RX6, "bringIn", "(LSheetKernel$Sheet;I)V"⟩
abbrev cX6_copyInto : ByteArray := prog_1_method_35_code
def yX6_copyInto : MethodName := ⟨RX6, "copyInto", "(LSheetKernel$Task;II)LSheetKernel$Sheet;"⟩
abbrev cX6_findFrame : ByteArray := prog_1_method_36_code
def yX6_findFrame : MethodName := ⟨RX6, "findFrame", "(LSheetKernel$Task;I)I"⟩
abbrev cX6_putAway : ByteArray := prog_1_method_37_code
def yX6_putAway : MethodName := ⟨RX6, "putAway", "(I)Z"⟩
abbrev cX6_storeInSlots : ByteArray := prog_1_method_38_code
def yX6_storeInSlots : MethodName := ⟨RX6, "storeInSlots", "(LSheetKernel$Sheet;)Z"⟩
abbrev cX6_isValuable : ByteArray := prog_1_method_39_code
def yX6_isValuable : MethodName := ⟨RX6, "isValuable", "(LSheetKernel$Sheet;)Z"⟩
abbrev cX6_whoEnds : ByteArray := prog_1_method_40_code
def yX6_whoEnds : MethodName := ⟨RX6, "whoEnds", "(LSheetKernel$Task;)LSheetKernel$Task;"⟩
abbrev cX6_put : ByteArray := prog_1_method_41_code
def yX6_put : MethodName := ⟨RX6, "put", "(IIII)V"⟩
abbrev cX6_throwUntouched : ByteArray := prog_1_method_42_code
def yX6_throwUntouched : MethodName := ⟨RX6, "throwUntouched", "(LSheetKernel$Task;)V"⟩
abbrev cX6_perform : ByteArray := prog_1_method_43_code
def yX6_perform : MethodName := ⟨RX6, "perform", "(LSheetKernel$Task;I)V"⟩
abbrev cX6_forkInto : ByteArray := prog_1_method_44_code
def yX6_forkInto : MethodName := ⟨RX6, "forkInto", "(LSheetKernel$Task;I)V"⟩
abbrev cX6_endRefused : ByteArray := prog_1_method_45_code
def yX6_endRefused : MethodName := ⟨RX6, "endRefused", "(LSheetKernel$Task;)V"⟩
abbrev cX6_countPages : ByteArray := prog_1_method_46_code
def yX6_countPages : MethodName := ⟨RX6, "countPages", "()V"⟩
def RX7 : String := "SheetKernelModel"
def TX7 : u_T := fun k => match k with
  | 0 => ("SheetKernelModel", "thrown", "I", false)
  | 1 => ("SheetKernelModel", "lives", "[Z", true)
  | 2 => ("SheetKernelModel", "valued", "[Z", true)
  | 3 => ("SheetKernelModel", "reason", "[I", true)
  | 4 => ("SheetKernelModel", "counter", "[I", true)
  | 5 => ("SheetKernelModel", "registers", "[I", true)
  | 6 => ("SheetKernelModel", "faults", "[I", true)
  | 7 => ("SheetKernelModel", "sheet", "[I", true)
  | 8 => ("SheetKernelModel", "kind", "[I", true)
  | 9 => ("SheetKernelModel", "where", "[I", true)
  | 10 => ("SheetKernelModel", "first", "[I", true)
  | 11 => ("SheetKernelModel", "packed", "[I", true)
  | 12 => ("SheetKernelModel", "words", "[I", true)
  | 13 => ("SheetKernelModel", "isSheet", "[Z", true)
  | 14 => ("SheetKernelModel", "frames", "[I", true)
  | 15 => ("SheetKernelModel", "used", "[Z", true)
  | 16 => ("SheetKernelModel", "changed", "[Z", true)
  | 17 => ("SheetKernelModel", "hand", "I", false)
  | 18 => ("SheetKernelModel", "slotOf", "[I", true)
  | 19 => ("SheetKernelModel", "isBad", "[Z", true)
  | 20 => ("SheetKernelModel", "fails", "[Z", true)
  | _ => ("SheetKernelModel", "isLost", "[Z", true)
def tyX7 : Nat → FieldType := fun k => match k with
  | 0 => .int
  | 1 => .array .boolean
  | 2 => .array .boolean
  | 3 => .array .int
  | 4 => .array .int
  | 5 => .array .int
  | 6 => .array .int
  | 7 => .array .int
  | 8 => .array .int
  | 9 => .array .int
  | 10 => .array .int
  | 11 => .array .int
  | 12 => .array .int
  | 13 => .array .boolean
  | 14 => .array .int
  | 15 => .array .boolean
  | 16 => .array .boolean
  | 17 => .int
  | 18 => .array .int
  | 19 => .array .boolean
  | 20 => .array .boolean
  | _ => .array .boolean
abbrev wsX70 : List Cond := u_ws RX7 TX7 22
theorem nmX7 : ∀ a, a < 22 → ∀ b, b < 22 → a ≠ b → (TX7 a).2.1 ≠ (TX7 b).2.1 := by decide +kernel
theorem tyX7_ok : ∀ k, k < 22 → parseFieldDescriptor (TX7 k).2.2.1 = some (tyX7 k) := by decide +kernel
abbrev cX7_init : ByteArray := prog_9_method_1_code
def yX7_init : MethodName := ⟨RX7, "<init>", "()V"⟩
abbrev cX7_thrown : ByteArray := prog_9_method_2_code
def yX7_thrown : MethodName := ⟨RX7, "thrown", "()I"⟩
abbrev cX7_mappings : ByteArray := prog_9_method_3_code
def yX7_mappings : MethodName := ⟨RX7, "mappings", "(I)I"⟩
abbrev cX7_frameOf : ByteArray := prog_9_method_4_code
def yX7_frameOf : MethodName := ⟨RX7, "frameOf", "(I)I"⟩
abbrev cX7_newSheet : ByteArray := prog_9_method_5_code
def yX7_newSheet : MethodName := ⟨RX7, "newSheet", "()I"⟩
abbrev cX7_freeSlot : ByteArray := prog_9_method_6_code
def yX7_freeSlot : MethodName := ⟨RX7, "freeSlot", "(I)V"⟩
abbrev cX7_freeSlots : ByteArray := prog_9_method_7_code
def yX7_freeSlots : MethodName := ⟨RX7, "freeSlots", "(I)V"⟩
abbrev cX7_slotNumber : ByteArray := prog_9_method_8_code
def yX7_slotNumber : MethodName := ⟨RX7, "slotNumber", "(II)I"⟩
abbrev cX7_clearFrame : ByteArray := prog_9_method_9_code
def yX7_clearFrame : MethodName := ⟨RX7, "clearFrame", "(I)V"⟩
abbrev cX7_unmap : ByteArray := prog_9_method_10_code
def yX7_unmap : MethodName := ⟨RX7, "unmap", "(I)V"⟩
abbrev cX7_end : ByteArray := prog_9_method_11_code
def yX7_end : MethodName := ⟨RX7, "end", "(II)V"⟩
abbrev cX7_packs : ByteArray := prog_9_method_12_code
def yX7_packs : MethodName := ⟨RX7, "packs", "(I)I"⟩
abbrev cX7_isTaken : ByteArray := prog_9_method_13_code
def yX7_isTaken : MethodName := ⟨RX7, "isTaken", "(I)Z"⟩
abbrev cX7_room : ByteArray := prog_9_method_14_code
def yX7_room : MethodName := ⟨RX7, "room", "(I)I"⟩
abbrev cX7_isValuable : ByteArray := prog_9_method_15_code
def yX7_isValuable : MethodName := ⟨RX7, "isValuable", "(I)Z"⟩
abbrev cX7_writeSlot : ByteArray := prog_9_method_16_code
def yX7_writeSlot : MethodName := ⟨RX7, "writeSlot", "()I"⟩
abbrev cX7_empty : ByteArray := prog_9_method_17_code
def yX7_empty : MethodName := ⟨RX7, "empty", "(I)Z"⟩
abbrev cX7_goOn : ByteArray := prog_9_method_18_code
def yX7_goOn : MethodName := ⟨RX7, "goOn", "(I)V"⟩
abbrev cX7_privates : ByteArray := prog_9_method_19_code
def yX7_privates : MethodName := ⟨RX7, "privates", "(I)I"⟩
abbrev cX7_victim : ByteArray := prog_9_method_20_code
def yX7_victim : MethodName := ⟨RX7, "victim", "(I)I"⟩
abbrev cX7_findFrame : ByteArray := prog_9_method_21_code
def yX7_findFrame : MethodName := ⟨RX7, "findFrame", "(II)I"⟩
abbrev cX7_fault : ByteArray := prog_9_method_22_code
def yX7_fault : MethodName := ⟨RX7, "fault", "(II)V"⟩
abbrev cX7_isGone : ByteArray := prog_9_method_23_code
def yX7_isGone : MethodName := ⟨RX7, "isGone", "(I)Z"⟩
abbrev cX7_bring : ByteArray := prog_9_method_24_code
def yX7_bring : MethodName := ⟨RX7, "bring", "(II)I"⟩
abbrev cX7_touch : ByteArray := prog_9_method_25_code
def yX7_touch : MethodName := ⟨RX7, "touch", "(IIZZ)I"⟩
abbrev cX7_isNumber : ByteArray := prog_9_method_26_code
def yX7_isNumber : MethodName := ⟨RX7, "isNumber", "(II)Z"⟩
abbrev cX7_isLiving : ByteArray := prog_9_method_27_code
def yX7_isLiving : MethodName := ⟨RX7, "isLiving", "(I)Z"⟩
abbrev cX7_fresh : ByteArray := prog_9_method_28_code
def yX7_fresh : MethodName := ⟨RX7, "fresh", "()I"⟩
abbrev cX7_spawn : ByteArray := prog_9_method_29_code
def yX7_spawn : MethodName := ⟨RX7, "spawn", "()I"⟩
abbrev cX7_areMapped : ByteArray := prog_9_method_30_code
def yX7_areMapped : MethodName := ⟨RX7, "areMapped", "(III)Z"⟩
abbrev cX7_areFree : ByteArray := prog_9_method_31_code
def yX7_areFree : MethodName := ⟨RX7, "areFree", "(III)Z"⟩
abbrev cX7_area : ByteArray := prog_9_method_32_code
def yX7_area : MethodName := ⟨RX7, "area", "(IIII)V"⟩
abbrev cX7_share : ByteArray := prog_9_method_33_code
def yX7_share : MethodName := ⟨RX7, "share", "(IIIII)V"⟩
abbrev cX7_free : ByteArray := prog_9_method_34_code
def yX7_free : MethodName := ⟨RX7, "free", "(III)V"⟩
abbrev cX7_divide : ByteArray := prog_9_method_35_code
def yX7_divide : MethodName := ⟨RX7, "divide", "(I)I"⟩
abbrev cX7_fork : ByteArray := prog_9_method_36_code
def yX7_fork : MethodName := ⟨RX7, "fork", "(I)I"⟩
abbrev cX7_exit : ByteArray := prog_9_method_37_code
def yX7_exit : MethodName := ⟨RX7, "exit", "(I)V"⟩
abbrev cX7_access : ByteArray := prog_9_method_38_code
def yX7_access : MethodName := ⟨RX7, "access", "(IIZZ)I"⟩
abbrev cX7_read : ByteArray := prog_9_method_39_code
def yX7_read : MethodName := ⟨RX7, "read", "(II)I"⟩
abbrev cX7_write : ByteArray := prog_9_method_40_code
def yX7_write : MethodName := ⟨RX7, "write", "(III)V"⟩
abbrev cX7_load : ByteArray := prog_9_method_41_code
def yX7_load : MethodName := ⟨RX7, "load", "(III)V"⟩
abbrev cX7_reaches : ByteArray := prog_9_method_42_code
def yX7_reaches : MethodName := ⟨RX7, "reaches", "(IIZ)Z"⟩
abbrev cX7_step : ByteArray := prog_9_method_43_code
def yX7_step : MethodName := ⟨RX7, "step", "(I)V"⟩
abbrev cX7_run : ByteArray := prog_9_method_44_code
def yX7_run : MethodName := ⟨RX7, "run", "(II)I"⟩
abbrev cX7_slot : ByteArray := prog_9_method_45_code
def yX7_slot : MethodName := ⟨RX7, "slot", "(II)V"⟩
abbrev cX7_valuable : ByteArray := prog_9_method_46_code
def yX7_valuable : MethodName := ⟨RX7, "valuable", "(IZ)V"⟩
abbrev cX7_freeFrames : ByteArray := prog_9_method_47_code
def yX7_freeFrames : MethodName := ⟨RX7, "freeFrames", "()I"⟩
abbrev cX7_tick : ByteArray := prog_9_method_48_code
def yX7_tick : MethodName := ⟨RX7, "tick", "()V"⟩
abbrev cX7_about : ByteArray := prog_9_method_49_code
def yX7_about : MethodName := ⟨RX7, "about", "(II)I"⟩
abbrev cX7_page : ByteArray := prog_9_method_50_code
def yX7_page : MethodName := ⟨RX7, "page", "(III)I"⟩
abbrev cX7_frame : ByteArray := prog_9_method_51_code
def yX7_frame : MethodName := ⟨RX7, "frame", "(I)I"⟩
abbrev cX7_slots : ByteArray := prog_9_method_52_code
def yX7_slots : MethodName := ⟨RX7, "slots", "(I)I"⟩
abbrev cX7_pool : ByteArray := prog_9_method_53_code
def yX7_pool : MethodName := ⟨RX7, "pool", "(I)I"⟩
abbrev cX7_broken : ByteArray := prog_9_method_54_code
def yX7_broken : MethodName := ⟨RX7, "broken", "()I"⟩
def RL : String := "SheetKernelLaw"
abbrev cL_spawn : ByteArray := method_3_code
def yL_spawn : MethodName := ⟨RL, "spawn", "(LSheetKernel;[J)I"⟩
abbrev cL_area : ByteArray := method_4_code
def yL_area : MethodName := ⟨RL, "area", "(LSheetKernel;IIII)I"⟩
abbrev cL_share : ByteArray := method_5_code
def yL_share : MethodName := ⟨RL, "share", "(LSheetKernel;IIIII)I"⟩
abbrev cL_free : ByteArray := method_6_code
def yL_free : MethodName := ⟨RL, "free", "(LSheetKernel;III)I"⟩
abbrev cL_fork : ByteArray := method_7_code
def yL_fork : MethodName := ⟨RL, "fork", "(LSheetKernel;I[J)I"⟩
abbrev cL_exit : ByteArray := method_8_code
def yL_exit : MethodName := ⟨RL, "exit", "(LSheetKernel;I)I"⟩
abbrev cL_read : ByteArray := method_9_code
def yL_read : MethodName := ⟨RL, "read", "(LSheetKernel;II[J)I"⟩
abbrev cL_write : ByteArray := method_10_code
def yL_write : MethodName := ⟨RL, "write", "(LSheetKernel;III)I"⟩
abbrev cL_load : ByteArray := method_11_code
def yL_load : MethodName := ⟨RL, "load", "(LSheetKernel;III)I"⟩
abbrev cL_run : ByteArray := method_12_code
def yL_run : MethodName := ⟨RL, "run", "(LSheetKernel;II[J)I"⟩
abbrev cL_slot : ByteArray := method_13_code
def yL_slot : MethodName := ⟨RL, "slot", "(LSheetKernel;II)I"⟩
abbrev cL_valuable : ByteArray := method_14_code
def yL_valuable : MethodName := ⟨RL, "valuable", "(LSheetKernel;IZ)I"⟩
abbrev cL_law : ByteArray := code
def yL_law : MethodName := ⟨RL, "law", "([I)Z"⟩
abbrev vwCl : List vw_C := [(RX0, TX0, 3), (RX1, TX1, 4), (RX2, TX2, 4), (RX3, TX3, 8), (RX4, TX4, 3), (RX5, TX5, 8), (RX6, TX6, 5), (RX7, TX7, 22)]
end
section
/-! ===== BEGIN words of one list among another's, by their places ===== -/
theorem goodIn_r {big : List Cond} (ws : List Cond) (ps : List Nat) (hp : ws = ps.filterMap (fun i => big[i]?)) (h : ws.all goodWord = true) : GoodIn big ws := by
  intro w hw
  have h1 := List.all_eq_true.mp h w hw
  rw [hp] at hw
  obtain ⟨i, -, hi⟩ := List.mem_filterMap.mp hw
  have hm : w ∈ big := by first | exact List.mem_of_getElem? hi | exact List.getElem?_mem hi
  exact ⟨hm, good_of_word h1⟩
theorem goodIn_app {big a b : List Cond} (ha : GoodIn big a) (hb : GoodIn big b) : GoodIn big (a ++ b) := fun w h => (List.mem_append.mp h).elim (ha w) (hb w)
theorem goodIn_ca {big a b : List Cond} {c : Cond} (ha : GoodIn big (c :: a)) (hb : GoodIn big b) : GoodIn big (c :: (a ++ b)) := fun w h => (List.mem_cons.mp h).elim (fun e => ha w (List.mem_cons.mpr (Or.inl e))) (fun h => (List.mem_append.mp h).elim (fun h => ha w (List.mem_cons.mpr (Or.inr h))) (hb w))
theorem goodIn_sub {big ws : List Cond} (hm : ∀ w ∈ ws, w ∈ big) (h : ws.all goodWord = true) : GoodIn big ws := fun w hw => ⟨hm w hw, good_of_word (List.all_eq_true.mp h w hw)⟩
/-! ===== END ===== -/

/-! ===== BEGIN exceptions that leave a method, and their catching by the caller (launches without stack traces) ===== -/
section VXA
/-! The laws vx_back, vx_callV, vx_callS, vx_callSW, vx_throw0, vx_throwS follow proofs of the library, with one case more: JvmDerived/Free/Laws.lean (Back.of_free), Shelf42/LK1.lean (callV, callS), Shelf/KitTraced.lean (throwNew0V, throwNewS). -/
/-- where a method has thrown q: the class by its name, the cell, what was written, the world -/
def vx_T (XC : String → State → State → Prop) (st : State) (q : Addr) (t : State) (mc ms : Nat) (free : Addr → Prop) : Prop :=
  ∃ (E : String) (ce : Cell) (L : List Loc), XC E st t ∧ t.heap[q]? = some ce ∧ ce.vm = .none ∧ st.vm.findClass E = some ce.cls ∧ st.WarmedH t.vm ∧ st.sameButNew ({ t with vm := st.vm } : State) L mc ms ∧ ∀ z ∈ L, free z.base
def vx_Q (Qc : Array Value → State → Outcome → State → Prop) (XC : String → State → State → Prop) (mc ms : Nat) (free : Addr → Prop) : Array Value → State → Outcome → State → Prop := fun a st o t =>
  (Qc a st o t ∧ ∃ L, FrameEnd st o t L mc ms ∧ ∀ q ∈ L, free q.base) ∨ ∃ q, o = .threw q ∧ vx_T XC st q t mc ms free
/-- a callee that returns or throws -/
def vx_Met (l : Launch) (y : MethodName) (ws : List Cond) (rm : Room) (Pc : Array Value → State → Prop) (Qc : Array Value → State → Outcome → State → Prop) (XC : String → State → State → Prop) (mc ms : Nat) (free : Addr → Prop) : Prop :=
  MetFree l y (headSpec ws rm) Pc (fun _ _ _ _ _ => True) (vx_Q Qc XC mc ms free)
def vx_Post (XC : String → State → State → Prop) (mc ms : Nat) (free : Addr → Prop) : Pt → Array Value → Addr → Pt → Prop := fun A a q B =>
  ∃ (g : JFrame) (mk : MethodId) (t : State) (L : List Loc) (E : String) (ce : Cell), B.U.heap = t.heap ∧ B.U.vm = t.vm ∧ XC E (A.U.calling g mk a) t ∧ t.heap[q]? = some ce ∧ ce.vm = .none ∧ A.U.vm.findClass E = some ce.cls ∧ B.locs = A.locs ++ L ∧ (∀ z ∈ L, free z.base) ∧ B.cells = A.cells + mc ∧ B.slots = A.slots + ms
def vx_Back (l : Launch) (R : Room) (p : Program) (e : Env) (below : List Frame) (s : State) (sargs : Array Value) (y : MethodName) (len W9 : Nat)
    (Pre : Pt → Array Value → Prop) (Post : Pt → Array Value → Option Value → Pt → Prop) (PostX : Pt → Array Value → Addr → Pt → Prop) : Prop :=
  ∀ (m : MethodId) (meth : Method) (c : Code) (A : Pt) (g : JFrame) (ig : Instr) (mk : MethodId) (a : Array Value),
    Stand p l e R s m sargs below meth c A.U A.locs A.cells A.slots → g.method = m → g.locals.size = c.maxLocals → decode c.code g.pc = .ok (ig, len) →
    2 * g.monitorRoom + (g.stack.map fun v => v.category).sum ≤ W9 → A.U.methodNamed? y = some mk → Pre A a →
    (∃ (v : Option Value) (B : Pt), Stand p l e R s m sargs below meth c B.U B.locs B.cells B.slots ∧ Post A a v B ∧
      Steps p.tables e below (doInvoke e (A.U.setTop g) [] mk a).1 (B.U.setTop { g with pc := g.pc + len, stack := v.toList ++ g.stack })) ∨
    (∃ (q : Addr) (B : Pt), Stand p l e R s m sargs below meth c B.U B.locs B.cells B.slots ∧ PostX A a q B ∧
      Steps p.tables e below (doInvoke e (A.U.setTop g) [] mk a).1 ((B.U.setTop g).pushFrame (.throwing q)))
section Payer
variable {l : Launch} {R : Room} {p : Program} {e : Env} {below : List Frame} {s : State} {sargs : Array Value} {y : MethodName} {len W9 : Nat}
theorem vx_back {ws : List Cond} {rm : Room} {Pc : Array Value → State → Prop} {Qc : Array Value → State → Outcome → State → Prop} {XC : String → State → State → Prop} {mc ms : Nat} {free : Addr → Prop} {bytes : ByteArray} {maxL : Nat} {ret : Option FieldType}
    (hM : vx_Met l y ws rm Pc Qc XC mc ms free) (hblind : FrameBlind Pc) (hrc : rm.cells = mc) (hrs : rm.slots = ms)
    (hframes : rm.frames + 1 ≤ R.frames) (hlocals : W9 + (maxL + 11) + rm.locals ≤ R.locals)
    (hws : ∀ w ∈ ws, ∀ a' U, s.WarmedH U.vm → w.before a' U = true) (hcode : Cond.code y bytes maxL ret ∈ ws) (hinit : ∀ a' U, s.WarmedH U.vm → (Cond.initialized y.cls).before a' U = true) :
    vx_Back l R p e below s sargs y len W9 (PreOf R mc ms Pc) (PostOf Qc mc ms free) (vx_Post XC mc ms free) := by
  intro m meth c A g ig mk a X hg hsize hdg hW hn hp
  have h1 : (headSpec ws rm).pre.before a A.U = true := atoms_intro fun w hw => hws w hw _ _ X.warmed
  have h2 : (Cond.code y bytes maxL ret).before a A.U = true := hws _ hcode _ _ X.warmed
  have h3 : (Cond.initialized y.cls).before a A.U = true := hinit _ _ X.warmed
  have h4 : A.cells + (headSpec ws rm).room.cells ≤ R.cells := by rw [show (headSpec ws rm).room.cells = mc from hrc]; exact hp.1
  have h5 : A.slots + (headSpec ws rm).room.slots ≤ R.slots := by rw [show (headSpec ws rm).room.slots = ms from hrs]; exact hp.2.1
  have hPc : Pc a (A.U.calling g mk a) := hblind _ _ _ _ hp.2.2
  obtain ⟨U, Ls, c0, s0⟩ := A
  dsimp only [Pt.U, Pt.locs, Pt.cells, Pt.slots] at h1 h2 h3 h4 h5 X hn hPc ⊢
  obtain ⟨methY, cY, hmY, hcY, -, hlY, -, -, -, -⟩ := Cond.code_spec hn h2
  obtain ⟨kY, hkY, -⟩ := className_of_methodNamed hn
  have hinitY : kY.init = .initialized := Cond.initialized_spec (findClass_of_methodNamed hn) hkY h3
  have h : At U g.method c below := by rw [hg]; exact X.here
  have hlocals9 : W9 + (maxL + 11) + (headSpec ws rm).room.locals ≤ R.locals := hlocals
  have happ : (headSpec ws rm).appliesLoose y e.platform (U.calling g mk a) = true :=
    Spec.appliesLoose_calling (g := g) h hdg hn hkY hinitY
      (X.room_calling (g := g) (R' := (headSpec ws rm).room) hsize hmY hcY hframes (by rw [hlY]; omega) h4 h5) h1
  obtain ⟨mid, hmid⟩ := h.above
  have hfr : (U.setTop g).frames = (.java g :: mid) ++ below := by rw [State.frames_setTop' g h.top, hmid]; rfl
  obtain ⟨o, s₂, hsteps, -, hend, hq⟩ := Steps.callFree hM p X.admits X.cas X.clock (acts := []) hfr happ hPc trivial
  have hq' : vx_Q Qc XC mc ms free a (U.calling g mk a) o s₂ := hq
  rw [State.frames_setTop' g h.top] at hend
  obtain ⟨g₀, hg0⟩ := Option.isSome_iff_exists.mp h.top
  obtain ⟨r, hr⟩ := State.topJava?_eq_some.mp hg0
  have hr' : (({ U with heap := s₂.heap, slotsUsed := s₂.slotsUsed } : State).setVm s₂.vm).frames = .java g₀ :: r := hr
  rcases hq' with ⟨hqc, L, hfe, hL⟩ | ⟨q, rfl, E, ce, L, hx, hce, hcv, hcl, hW₂, hsm, hL⟩
  · obtain ⟨⟨v, rfl⟩, hW₂, e2, q2, q3, q4, q5, q6⟩ := id hfe
    have e3 : s₂ = ({ (U.calling g mk a).setFrames s₂.frames with heap := s₂.heap, slotsUsed := s₂.slotsUsed } : State).setVm s₂.vm := by
      have : s₂ = ({ s₂ with vm := (U.calling g mk a).vm } : State).setVm s₂.vm := rfl
      rw [e2] at this
      exact this
    obtain ⟨c₂, i₂, len₂, hc₂, hd₂, hf₂⟩ := hend
    have hW' : U.WarmedH s₂.vm := hW₂
    have hcc : c₂ = c := by
      have h1 : s₂.code? g.method = U.code? g.method := by
        rw [State.code?_eq, State.code?_eq, hW'.alike.method?]
      exact Option.some.inj (hc₂.symm.trans (h1.trans h.code))
    subst hcc
    have hlen : len₂ = len := by rw [hdg] at hd₂; cases hd₂; rfl
    subst hlen
    have hs₂ : s₂ = (({ U with heap := s₂.heap, slotsUsed := s₂.slotsUsed } : State).setVm s₂.vm).setTop { g with pc := g.pc + len₂, stack := v.toList ++ g.stack } := by
      refine e3.trans ?_
      rw [hf₂, State.calling_eq h.top, State.setFrames_setFrames, State.setTop_of_frames _ hr', hr]
      rfl
    have hsame : U.sameButNew ({ U with heap := s₂.heap, slotsUsed := s₂.slotsUsed } : State) L mc ms := by
      refine ⟨?_, q2, q3, q4, q5, q6⟩
      obtain ⟨t, ht, -⟩ := State.frames_cons hr
      show ({ U with heap := s₂.heap, slotsUsed := s₂.slotsUsed } : State) = { U.setFrames U.frames with heap := s₂.heap, slotsUsed := s₂.slotsUsed }
      rw [State.setFrames_self ht]
    subst hg
    refine Or.inl ⟨v, ⟨(({ U with heap := s₂.heap, slotsUsed := s₂.slotsUsed } : State).setVm s₂.vm), Ls ++ L, c0 + mc, s0 + ms⟩,
      ⟨X.admits, X.cas, X.clock, X.frames, X.room, X.hears, X.method, X.code, (X.here.setHeapUsed s₂.heap s₂.slotsUsed).setVm hW'.alike, X.tail, State.WarmedH.trans X.warmed hW', X.limits, X.bytes, X.same.trans (hsame.setVm s.vm)⟩,
      ⟨g, mk, s₂, L, rfl, rfl, hqc, rfl, hL, rfl, rfl⟩, ?_⟩
    show Steps p.tables e below _ ((({ U with heap := s₂.heap, slotsUsed := s₂.slotsUsed } : State).setVm s₂.vm).setTop { g with pc := g.pc + len₂, stack := v.toList ++ g.stack })
    rw [← hs₂]
    exact hsteps
  · obtain ⟨e2, q2, q3, q4, q5, q6⟩ := id hsm
    have e3 : s₂ = ({ (U.calling g mk a).setFrames s₂.frames with heap := s₂.heap, slotsUsed := s₂.slotsUsed } : State).setVm s₂.vm := by
      have : s₂ = ({ s₂ with vm := (U.calling g mk a).vm } : State).setVm s₂.vm := rfl
      rw [e2] at this
      exact this
    have hf₂ : s₂.frames = .throwing q :: .java g :: U.frames.tail := hend
    have hW' : U.WarmedH s₂.vm := hW₂
    have hs₂ : s₂ = ((({ U with heap := s₂.heap, slotsUsed := s₂.slotsUsed } : State).setVm s₂.vm).setTop g).pushFrame (.throwing q) := by
      refine e3.trans ?_
      rw [hf₂, State.calling_eq h.top, State.setFrames_setFrames, State.pushFrame, State.frames_setTop _ hr', State.setTop_of_frames _ hr', State.setFrames_setFrames, hr]
      rfl
    have hsame : U.sameButNew ({ U with heap := s₂.heap, slotsUsed := s₂.slotsUsed } : State) L mc ms := by
      refine ⟨?_, q2, q3, q4, q5, q6⟩
      obtain ⟨t, ht, -⟩ := State.frames_cons hr
      show ({ U with heap := s₂.heap, slotsUsed := s₂.slotsUsed } : State) = { U.setFrames U.frames with heap := s₂.heap, slotsUsed := s₂.slotsUsed }
      rw [State.setFrames_self ht]
    subst hg
    refine Or.inr ⟨q, ⟨(({ U with heap := s₂.heap, slotsUsed := s₂.slotsUsed } : State).setVm s₂.vm), Ls ++ L, c0 + mc, s0 + ms⟩,
      ⟨X.admits, X.cas, X.clock, X.frames, X.room, X.hears, X.method, X.code, (X.here.setHeapUsed s₂.heap s₂.slotsUsed).setVm hW'.alike, X.tail, State.WarmedH.trans X.warmed hW', X.limits, X.bytes, X.same.trans (hsame.setVm s.vm)⟩,
      ⟨g, mk, s₂, L, E, ce, rfl, rfl, hx, hce, hcv, hcl, rfl, hL, rfl, rfl⟩, ?_⟩
    show Steps p.tables e below _ (((({ U with heap := s₂.heap, slotsUsed := s₂.slotsUsed } : State).setVm s₂.vm).setTop g).pushFrame (.throwing q))
    rw [← hs₂]
    exact hsteps
end Payer
section Calls
variable {p : Program} {l : Launch} {e : Env} {R : Room} {s : State} {m : MethodId} {args : Array Value} {below : List Frame} {meth : Method} {c : Code} {T : State} {locs : List Loc} {cells slots : Nat}
theorem vx_callV (X : Stand p l e R s m args below meth c T locs cells slots) (hexec : p.tables.exec = Jvm.exec) {own C : String} {index : Nat} {y : MethodName} {bytes : ByteArray} {maxL : Nat} {ret : Option FieldType}
    (hown : s.vm.findClass own = some m.cls) (hlink : (Cond.methodLink own index y).before args s = true) (hinst : (Cond.instanceMethod y).before args s = true) (hsel : (Cond.selects C y y).before args s = true)
    (hcode : (Cond.code y bytes maxL ret).before args s = true) (hy : y.cls ≠ "java/lang/invoke/MethodHandle" ∧ y.cls ≠ "java/lang/invoke/VarHandle")
    {W9 : Nat} {Pre : Pt → Array Value → Prop} {Post : Pt → Array Value → Option Value → Pt → Prop} {PostX : Pt → Array Value → Addr → Pt → Prop} (hK : vx_Back l R p e below s args y 3 W9 Pre Post PostX)
    {b : Addr} {cellB : Cell} (hcell : T.heap[b]? = some cellB) (hobj : cellB.vm.isStatics = false) (hcls : s.vm.findClass C = some cellB.cls)
    {g : JFrame} (hg : g.method = m) (hsize : g.locals.size = c.maxLocals) {argsL rest : List Value} (hlen : ∀ sig, parseMethodDescriptor y.desc = some sig → argsL.length = sig.parameters.length)
    (hstack : g.stack = argsL.reverse ++ .ref b :: rest) (hW : 2 * g.monitorRoom + (rest.map fun v => v.category).sum ≤ W9) (hdg : decode c.code g.pc = .ok (.invokevirtual index, 3))
    (hpre : ∀ vm₁, s.WarmedH vm₁ → Pre ⟨T.setVm vm₁, locs, cells, slots⟩ (Value.ref b :: argsL).toArray) :
    (∃ (v : Option Value) (vm₁ : Vm) (B : Pt), s.WarmedH vm₁ ∧ Stand p l e R s m args below meth c B.U B.locs B.cells B.slots ∧ Post ⟨T.setVm vm₁, locs, cells, slots⟩ (Value.ref b :: argsL).toArray v B ∧
      ∀ target, Steps p.tables e below (B.U.setTop { g with pc := g.pc + 3, stack := v.toList ++ rest }) target → Steps p.tables e below (T.setTop g) target) ∨
    (∃ (q : Addr) (vm₁ : Vm) (B : Pt), s.WarmedH vm₁ ∧ Stand p l e R s m args below meth c B.U B.locs B.cells B.slots ∧ PostX ⟨T.setVm vm₁, locs, cells, slots⟩ (Value.ref b :: argsL).toArray q B ∧
      Steps p.tables e below (T.setTop g) ((B.U.setTop { g with stack := rest }).pushFrame (.throwing q))) := by
  obtain ⟨mk, methM, hnamed, hmethM, hstM, habM⟩ := Cond.instanceMethod_spec hinst
  obtain ⟨methM', cM, hmethM', -, -, -, -, -, -, hsigM⟩ := Cond.code_spec hnamed hcode
  cases hmethM.symm.trans hmethM'
  obtain ⟨c2, r2, m2, q1, q2, q3, q4, kP, hkP, hkPi⟩ := Cond.selects_spec hsel
  cases hcls.symm.trans q1
  cases (State.methodFound?_of_named hnamed hy).symm.trans q2
  cases hnamed.symm.trans q3
  have hselP : selectMethod e.platform s.vm cellB.cls mk = .method mk := by rw [Launch.admits_selectMethod X.admits]; exact q4
  obtain ⟨vm₁, X₁, hstep₁⟩ := X.invokevirtual hexec hown hlink hnamed hmethM hstM hkP hkPi hy (a := b) (cell := cellB) hcell
    (fun z h => by rw [h] at hobj; cases hobj) hselP hmethM habM hkP hkPi (g := g) hg (argsL := argsL) (rest := rest) (hlen _ hsigM) hstack hdg
  rcases hK m meth c ⟨T.setVm vm₁, locs, cells, slots⟩ { g with stack := rest } (.invokevirtual index) mk (Value.ref b :: argsL).toArray X₁ hg hsize hdg hW (X₁.named hnamed) (hpre vm₁ X₁.warmed) with ⟨v, B, X', hpost, hsteps⟩ | ⟨q, B, X', hpost, hsteps⟩
  · exact Or.inl ⟨v, vm₁, B, X₁.warmed, X', hpost, fun target h => hstep₁ _ fun acts => by rw [doInvoke_state]; exact hsteps.trans h⟩
  · exact Or.inr ⟨q, vm₁, B, X₁.warmed, X', hpost, hstep₁ _ fun acts => by rw [doInvoke_state]; exact hsteps⟩
theorem vx_callS (X : Stand p l e R s m args below meth c T locs cells slots) (hexec : p.tables.exec = Jvm.exec) {own : String} {index : Nat} {y : MethodName} {bytes : ByteArray} {maxL : Nat} {ret : Option FieldType}
    (hown : s.vm.findClass own = some m.cls) (hlink : (Cond.methodLink own index y).before args s = true) (hstat : (Cond.static y).before args s = true) (hinit : (Cond.initialized y.cls).before args s = true)
    (hcode : (Cond.code y bytes maxL ret).before args s = true) (hy : y.cls ≠ "java/lang/invoke/MethodHandle" ∧ y.cls ≠ "java/lang/invoke/VarHandle")
    {W9 : Nat} {Pre : Pt → Array Value → Prop} {Post : Pt → Array Value → Option Value → Pt → Prop} {PostX : Pt → Array Value → Addr → Pt → Prop} (hK : vx_Back l R p e below s args y 3 W9 Pre Post PostX)
    {g : JFrame} (hg : g.method = m) (hsize : g.locals.size = c.maxLocals) {argsL rest : List Value} (hlen : ∀ sig, parseMethodDescriptor y.desc = some sig → argsL.length = sig.parameters.length)
    (hstack : g.stack = argsL.reverse ++ rest) (hW : 2 * g.monitorRoom + (rest.map fun v => v.category).sum ≤ W9) (hdg : decode c.code g.pc = .ok (.invokestatic index, 3))
    (hpre : ∀ vm₁, s.WarmedH vm₁ → Pre ⟨T.setVm vm₁, locs, cells, slots⟩ argsL.toArray) :
    (∃ (v : Option Value) (vm₁ : Vm) (B : Pt), s.WarmedH vm₁ ∧ Stand p l e R s m args below meth c B.U B.locs B.cells B.slots ∧ Post ⟨T.setVm vm₁, locs, cells, slots⟩ argsL.toArray v B ∧
      ∀ target, Steps p.tables e below (B.U.setTop { g with pc := g.pc + 3, stack := v.toList ++ rest }) target → Steps p.tables e below (T.setTop g) target) ∨
    (∃ (q : Addr) (vm₁ : Vm) (B : Pt), s.WarmedH vm₁ ∧ Stand p l e R s m args below meth c B.U B.locs B.cells B.slots ∧ PostX ⟨T.setVm vm₁, locs, cells, slots⟩ argsL.toArray q B ∧
      Steps p.tables e below (T.setTop g) ((B.U.setTop { g with stack := rest }).pushFrame (.throwing q))) := by
  obtain ⟨mk, hnamed⟩ := Cond.code_named hcode
  obtain ⟨methM, cM, hmethM, -, -, -, -, -, -, hsigM⟩ := Cond.code_spec hnamed hcode
  have hstatic : methM.isStatic = true := Cond.static_spec hnamed hmethM hstat
  obtain ⟨kP, hkP, -⟩ := className_of_methodNamed hnamed
  have hinitP : kP.init = .initialized := Cond.initialized_spec (findClass_of_methodNamed hnamed) hkP hinit
  obtain ⟨vm₁, X₁, hstep₁⟩ := X.invokestatic hexec hown hlink hnamed hmethM hstatic hkP hinitP hy (g := g) hg (argsL := argsL) (rest := rest) (hlen _ hsigM) hstack hdg
  rcases hK m meth c ⟨T.setVm vm₁, locs, cells, slots⟩ { g with stack := rest } (.invokestatic index) mk argsL.toArray X₁ hg hsize hdg hW (X₁.named hnamed) (hpre vm₁ X₁.warmed) with ⟨v, B, X', hpost, hsteps⟩ | ⟨q, B, X', hpost, hsteps⟩
  · exact Or.inl ⟨v, vm₁, B, X₁.warmed, X', hpost, fun target h => hstep₁ _ fun acts => by rw [doInvoke_state]; exact hsteps.trans h⟩
  · exact Or.inr ⟨q, vm₁, B, X₁.warmed, X', hpost, hstep₁ _ fun acts => by rw [doInvoke_state]; exact hsteps⟩
end Calls
theorem vx_cls {s : State} {T : State} {vm₁ : Vm} {E : String} {k : ClassId} (hW : s.WarmedH vm₁) (h : (T.setVm vm₁).vm.findClass E = some k) : s.vm.findClass E = some k := by
  have h1 : vm₁.findClass E = some k := h
  rw [hW.alike.findClass] at h1
  exact h1
/-- the method's frame g, with q thrown over it -/
def vx_W (p : Program) (l : Launch) (e : Env) (R : Room) (s : State) (m : MethodId) (args : Array Value) (below : List Frame) (meth : Method) (c : Code) (H : Heap) (locs : List Loc) (cells slots : Nat) (Q : State → Prop) (g : JFrame) (q : Addr) : Prop :=
  ∀ T : State, T.heap = H → Stand p l e R s m args below meth c T locs cells slots → ∃ t, Steps p.tables e below ((T.setTop g).pushFrame (.throwing q)) t ∧ Q t
def vx_Run (p : Program) (l : Launch) (e : Env) (R : Room) (s : State) (m : MethodId) (args : Array Value) (below : List Frame) (meth : Method) (c : Code) (H : Heap) (locs : List Loc) (cells slots mc ms : Nat) (g : JFrame) (rest : List Value) (Qa : State → Outcome → State → Prop) (XC : String → State → State → Prop) (free : Addr → Prop) : Prop :=
  ∀ T : State, T.heap = H → Stand p l e R s m args below meth c T locs cells slots →
    (∃ (v : Option Value) (st₀ t T' : State) (L : List Loc), st₀.heap = H ∧ Stand p l e R s m args below meth c T' (locs ++ L) (cells + mc) (slots + ms) ∧ (∀ q ∈ L, free q.base) ∧ T'.heap = t.heap ∧ T'.vm = t.vm ∧ Qa st₀ (.returned v) t ∧
      Goes p e below T g T' { g with pc := g.pc + 3, stack := v.toList ++ rest }) ∨
    (∃ (q : Addr) (st₀ t T' : State) (L : List Loc) (E : String) (ce : Cell), st₀.heap = H ∧ Stand p l e R s m args below meth c T' (locs ++ L) (cells + mc) (slots + ms) ∧ (∀ z ∈ L, free z.base) ∧ T'.heap = t.heap ∧ T'.vm = t.vm ∧ XC E st₀ t ∧ t.heap[q]? = some ce ∧ ce.vm = .none ∧ s.vm.findClass E = some ce.cls ∧
      Steps p.tables e below (T.setTop g) ((T'.setTop { g with stack := rest }).pushFrame (.throwing q)))
def vx_X {S : Type} (px : S → Prop) (B : String → S → State → Prop) (A : Nat → Prop) : String → State → State → Prop := fun E st t => ∃ u : S, px u ∧ B E u t ∧ va_F A st t
section Runs
variable {p : Program} {l : Launch} {e : Env} {R : Room} {s : State} {m : MethodId} {args : Array Value} {below : List Frame} {meth : Method} {c : Code} {H : Heap} {locs : List Loc} {cells slots : Nat}
variable {y : MethodName} {bytes cc : ByteArray} {maxL nL mc ms n index : Nat} {ret : Option FieldType} {ws : List Cond} {rm : Room} {Pc : Array Value → State → Prop} {Qc : Array Value → State → Outcome → State → Prop} {XC : String → State → State → Prop} {free : Addr → Prop} {Ts : List Cond} {own C : String} {b : Addr} {As rest : List Value} {g : JFrame}
theorem vx_callBack (cb : CallB R s args own index y bytes maxL ret ws rm mc ms n) (hM : vx_Met l y ws rm Pc Qc XC mc ms free) (hbl : FrameBlind Pc) : vx_Back l R p e below s args y 3 8 (PreOf R mc ms Pc) (PostOf Qc mc ms free) (vx_Post XC mc ms free) := by
  obtain ⟨hrc, hrs, hfr, hlo, hws, hcw, -, hini, -⟩ := cb
  exact vx_back (bytes := bytes) (maxL := maxL) (ret := ret) hM hbl hrc hrs hfr hlo hws hcw (fun a' U hW => word_at hW (Or.inl (by first | rfl | simp [Cond.onTables, Cond.keeps, Cond.steady])) hini)
theorem vx_runV (S : CallFix p m c cc nL s args Ts own) (hM : vx_Met l y ws rm Pc Qc XC mc ms free) (cw : CallW R s args own C index y bytes maxL ret ws rm mc ms n) (hp : PreV s H C b Pc As)
    (hg : g.method = m) (hn : As.length = n) (hsize : g.locals.size = nL) (hstack : g.stack = As.reverse ++ .ref b :: rest) (hW : 2 * g.monitorRoom + (rest.map fun v => v.category).sum ≤ 8) (hdg : decode cc g.pc = .ok (.invokevirtual index, 3)) (hf : cells + mc ≤ R.cells ∧ slots + ms ≤ R.slots) :
    vx_Run p l e R s m args below meth c H locs cells slots mc ms g rest (Qc (Value.ref b :: As).toArray) XC free := by
  have hK : vx_Back l R p e below s args y 3 8 (PreOf R mc ms Pc) (PostOf Qc mc ms free) (vx_Post XC mc ms free) := vx_callBack cw.1 hM hp.1
  obtain ⟨⟨-, -, -, -, -, -, hcode, -, hy, hlen, hl⟩, hin, hse⟩ := cw
  obtain ⟨hx, hb, hml, ho, -⟩ := S
  obtain ⟨-, ⟨cellB, hcB, hoB, hclB⟩, hPc⟩ := hp
  intro T hT X
  rcases vx_callV X hx (C := C) (bytes := bytes) (maxL := maxL) (ret := ret) ho hl hin hse hcode hy hK (by rw [hT]; exact hcB) hoB hclB hg (hsize.trans hml.symm) (argsL := As) (rest := rest) (fun sig h => hn.trans (hlen sig h)) hstack hW (by rw [hb]; exact hdg)
    (fun vm₁ hW₁ => ⟨hf.1, hf.2, hPc (T.setVm vm₁) hT hW₁⟩) with ⟨v, vm₁, ⟨U', l2, c2, s2⟩, hW₁, X', ⟨g', mk, t, L, e1, e2, hq, h1, hL, h2, h3⟩, st⟩ | ⟨q, vm₁, ⟨U', l2, c2, s2⟩, hW₁, X', ⟨g', mk, t, L, E, ce, e1, e2, hq, hce, hcv, hcl, h1, hL, h2, h3⟩, st⟩
  · dsimp only [Pt.U, Pt.locs, Pt.cells, Pt.slots] at X' e1 e2 h1 h2 h3 st
    subst h1; subst h2; subst h3
    exact Or.inl ⟨v, (T.setVm vm₁).calling g' mk (Value.ref b :: As).toArray, t, U', L, hT, X', hL, e1, e2, hq, st⟩
  · dsimp only [Pt.U, Pt.locs, Pt.cells, Pt.slots] at X' e1 e2 h1 h2 h3 st hcl
    subst h1; subst h2; subst h3
    exact Or.inr ⟨q, (T.setVm vm₁).calling g' mk (Value.ref b :: As).toArray, t, U', L, E, ce, hT, X', hL, e1, e2, hq, hce, hcv, vx_cls hW₁ hcl, st⟩
theorem vx_runS (S : CallFix p m c cc nL s args Ts own) (hM : vx_Met l y ws rm Pc Qc XC mc ms free) (cw : CallB R s args own index y bytes maxL ret ws rm mc ms n ∧ (Cond.static y).before args s = true) (hp : PreS s H Pc As)
    (hg : g.method = m) (hn : As.length = n) (hsize : g.locals.size = nL) (hstack : g.stack = As.reverse ++ rest) (hW : 2 * g.monitorRoom + (rest.map fun v => v.category).sum ≤ 8) (hdg : decode cc g.pc = .ok (.invokestatic index, 3)) (hf : cells + mc ≤ R.cells ∧ slots + ms ≤ R.slots) :
    vx_Run p l e R s m args below meth c H locs cells slots mc ms g rest (Qc As.toArray) XC free := by
  have hK : vx_Back l R p e below s args y 3 8 (PreOf R mc ms Pc) (PostOf Qc mc ms free) (vx_Post XC mc ms free) := vx_callBack cw.1 hM hp.1
  obtain ⟨⟨-, -, -, -, -, -, hcode, hini, hy, hlen, hl⟩, hstt⟩ := cw
  obtain ⟨hx, hb, hml, ho, -⟩ := S
  intro T hT X
  rcases vx_callS X hx (bytes := bytes) (maxL := maxL) (ret := ret) ho hl hstt hini hcode hy hK hg (hsize.trans hml.symm) (argsL := As) (rest := rest) (fun sig h => hn.trans (hlen sig h)) hstack hW (by rw [hb]; exact hdg)
    (fun vm₁ hW₁ => ⟨hf.1, hf.2, hp.2 (T.setVm vm₁) hT hW₁⟩) with ⟨v, vm₁, ⟨U', l2, c2, s2⟩, hW₁, X', ⟨g', mk, t, L, e1, e2, hq, h1, hL, h2, h3⟩, st⟩ | ⟨q, vm₁, ⟨U', l2, c2, s2⟩, hW₁, X', ⟨g', mk, t, L, E, ce, e1, e2, hq, hce, hcv, hcl, h1, hL, h2, h3⟩, st⟩
  · dsimp only [Pt.U, Pt.locs, Pt.cells, Pt.slots] at X' e1 e2 h1 h2 h3 st
    subst h1; subst h2; subst h3
    exact Or.inl ⟨v, (T.setVm vm₁).calling g' mk As.toArray, t, U', L, hT, X', hL, e1, e2, hq, st⟩
  · dsimp only [Pt.U, Pt.locs, Pt.cells, Pt.slots] at X' e1 e2 h1 h2 h3 st hcl
    subst h1; subst h2; subst h3
    exact Or.inr ⟨q, (T.setVm vm₁).calling g' mk As.toArray, t, U', L, E, ce, hT, X', hL, e1, e2, hq, hce, hcv, vx_cls hW₁ hcl, st⟩
end Runs
section Rows
variable {p : Program} {l : Launch} {e : Env} {R : Room} {s : State} {m : MethodId} {args : Array Value} {below : List Frame} {meth : Method} {c : Code} {H : Heap} {locs : List Loc} {cells slots : Nat} {Q : State → Prop}
variable {mc ms : Nat} {free : Addr → Prop} {A0 A1 : Nat → Prop} {H0 : Heap} {a : Array Value} {pc : Nat} {ls : Array Slot} {st0 rest : List Value}
theorem vx_keep {st₀ t T' : State} {L : List Loc} (h0 : st₀.heap = H) (e1 : T'.heap = t.heap) (hS : va_S A0 H0 H locs) (hA : ∀ q, q < H.size → A1 q → A0 q) (hf : ∀ q, free q → A0 q) (hL : ∀ q ∈ L, free q.base) (hF : va_F A1 st₀ t) :
    H.size ≤ T'.heap.size ∧ (∀ q : Nat, q < H.size → ¬ A1 q → T'.heap[q]? = H[q]?) ∧ va_S A0 H0 T'.heap (locs ++ L) := by
  obtain ⟨hz, hk⟩ := hF
  rw [h0] at hz hk
  exact ⟨by rw [e1]; exact hz, fun q h1 h2 => by rw [e1]; exact hk q h1 h2,
    ⟨Nat.le_trans hS.1 (by rw [e1]; exact hz), fun q h1 h2 => by rw [e1, hk q (Nat.lt_of_lt_of_le h1 hS.1) (fun z => h2 (hA q (Nat.lt_of_lt_of_le h1 hS.1) z))]; exact hS.2.1 q h1 h2, fun q hq => by
      rcases List.mem_append.mp hq with h | h
      · exact hS.2.2 q h
      · exact hf _ (hL q h)⟩⟩
theorem vx_calli {S SX : Type} {post : Int32 → S → Prop} {px : SX → Prop} {B : S → State → Prop} {BX : String → SX → State → Prop} {AX : Nat → Prop} (hr : vx_Run p l e R s m args below meth c H locs cells slots mc ms (F0 m pc ls st0) rest (va_Qi post B A1 a) (vx_X px BX AX) free) (hS : va_S A0 H0 H locs) (hA : ∀ q, q < H.size → A1 q → A0 q) (hf : ∀ q, free q → A0 q) (hAX : ∀ q, q < H.size → AX q → A0 q)
    (kx : ∀ (E : String) (ce : Cell) (q9 : Addr) (u : SX) (t : State) (H1 : Heap) (locs1 : List Loc), t.heap = H1 → s.vm.Alike t.vm → px u → BX E u t → H.size ≤ H1.size → (∀ q : Nat, q < H.size → ¬ AX q → H1[q]? = H[q]?) → va_S A0 H0 H1 locs1 → H1[q9]? = some ce → ce.vm = .none → s.vm.findClass E = some ce.cls → vx_W p l e R s m args below meth c H1 locs1 (cells + mc) (slots + ms) Q (F0 m pc ls rest) q9)
    (kk : ∀ (r : Int32) (u : S) (t : State) (H1 : Heap) (locs1 : List Loc), t.heap = H1 → s.vm.Alike t.vm → post r u → B u t → H.size ≤ H1.size → (∀ q : Nat, q < H.size → ¬ A1 q → H1[q]? = H[q]?) → va_S A0 H0 H1 locs1 → W p l e R s m args below meth c H1 locs1 (cells + mc) (slots + ms) Q (F0 m (pc + 3) ls (.int r :: rest))) : W p l e R s m args below meth c H locs cells slots Q (F0 m pc ls st0) := by
  intro T hT X
  rcases hr T hT X with ⟨v, st₀, t, T', L, h0, X', hL, e1, e2, ⟨⟨r, u, hv, hp, hb⟩, hF⟩, st⟩ | ⟨q, st₀, t, T', L, E, ce, h0, X', hL, e1, e2, ⟨u, hp, hb, hF⟩, hce, hcv, hcl, st⟩
  · cases hv
    obtain ⟨k1, k2, k3⟩ := vx_keep h0 e1 hS hA hf hL hF
    obtain ⟨t2, a1, b1⟩ := kk r u t T'.heap (locs ++ L) e1.symm (by rw [← e2]; exact X'.warmed.alike) hp hb k1 k2 k3 T' rfl X'
    exact ⟨t2, st t2 a1, b1⟩
  · obtain ⟨k1, k2, k3⟩ := vx_keep h0 e1 hS hAX hf hL hF
    obtain ⟨t2, a1, b1⟩ := kx E ce q u t T'.heap (locs ++ L) e1.symm (by rw [← e2]; exact X'.warmed.alike) hp hb k1 k2 k3 (by rw [e1]; exact hce) hcv hcl T' rfl X'
    exact ⟨t2, st.trans a1, b1⟩
theorem vx_calll {S SX : Type} {post : Int64 → S → Prop} {px : SX → Prop} {B : S → State → Prop} {BX : String → SX → State → Prop} {AX : Nat → Prop} (hr : vx_Run p l e R s m args below meth c H locs cells slots mc ms (F0 m pc ls st0) rest (va_Ql post B A1 a) (vx_X px BX AX) free) (hS : va_S A0 H0 H locs) (hA : ∀ q, q < H.size → A1 q → A0 q) (hf : ∀ q, free q → A0 q) (hAX : ∀ q, q < H.size → AX q → A0 q)
    (kx : ∀ (E : String) (ce : Cell) (q9 : Addr) (u : SX) (t : State) (H1 : Heap) (locs1 : List Loc), t.heap = H1 → s.vm.Alike t.vm → px u → BX E u t → H.size ≤ H1.size → (∀ q : Nat, q < H.size → ¬ AX q → H1[q]? = H[q]?) → va_S A0 H0 H1 locs1 → H1[q9]? = some ce → ce.vm = .none → s.vm.findClass E = some ce.cls → vx_W p l e R s m args below meth c H1 locs1 (cells + mc) (slots + ms) Q (F0 m pc ls rest) q9)
    (kk : ∀ (r : Int64) (u : S) (t : State) (H1 : Heap) (locs1 : List Loc), t.heap = H1 → s.vm.Alike t.vm → post r u → B u t → H.size ≤ H1.size → (∀ q : Nat, q < H.size → ¬ A1 q → H1[q]? = H[q]?) → va_S A0 H0 H1 locs1 → W p l e R s m args below meth c H1 locs1 (cells + mc) (slots + ms) Q (F0 m (pc + 3) ls (.long r :: rest))) : W p l e R s m args below meth c H locs cells slots Q (F0 m pc ls st0) := by
  intro T hT X
  rcases hr T hT X with ⟨v, st₀, t, T', L, h0, X', hL, e1, e2, ⟨⟨r, u, hv, hp, hb⟩, hF⟩, st⟩ | ⟨q, st₀, t, T', L, E, ce, h0, X', hL, e1, e2, ⟨u, hp, hb, hF⟩, hce, hcv, hcl, st⟩
  · cases hv
    obtain ⟨k1, k2, k3⟩ := vx_keep h0 e1 hS hA hf hL hF
    obtain ⟨t2, a1, b1⟩ := kk r u t T'.heap (locs ++ L) e1.symm (by rw [← e2]; exact X'.warmed.alike) hp hb k1 k2 k3 T' rfl X'
    exact ⟨t2, st t2 a1, b1⟩
  · obtain ⟨k1, k2, k3⟩ := vx_keep h0 e1 hS hAX hf hL hF
    obtain ⟨t2, a1, b1⟩ := kx E ce q u t T'.heap (locs ++ L) e1.symm (by rw [← e2]; exact X'.warmed.alike) hp hb k1 k2 k3 (by rw [e1]; exact hce) hcv hcl T' rfl X'
    exact ⟨t2, st.trans a1, b1⟩
theorem vx_callf {S SX : Type} {post : UInt32 → S → Prop} {px : SX → Prop} {B : S → State → Prop} {BX : String → SX → State → Prop} {AX : Nat → Prop} (hr : vx_Run p l e R s m args below meth c H locs cells slots mc ms (F0 m pc ls st0) rest (va_Qf post B A1 a) (vx_X px BX AX) free) (hS : va_S A0 H0 H locs) (hA : ∀ q, q < H.size → A1 q → A0 q) (hf : ∀ q, free q → A0 q) (hAX : ∀ q, q < H.size → AX q → A0 q)
    (kx : ∀ (E : String) (ce : Cell) (q9 : Addr) (u : SX) (t : State) (H1 : Heap) (locs1 : List Loc), t.heap = H1 → s.vm.Alike t.vm → px u → BX E u t → H.size ≤ H1.size → (∀ q : Nat, q < H.size → ¬ AX q → H1[q]? = H[q]?) → va_S A0 H0 H1 locs1 → H1[q9]? = some ce → ce.vm = .none → s.vm.findClass E = some ce.cls → vx_W p l e R s m args below meth c H1 locs1 (cells + mc) (slots + ms) Q (F0 m pc ls rest) q9)
    (kk : ∀ (r : UInt32) (u : S) (t : State) (H1 : Heap) (locs1 : List Loc), t.heap = H1 → s.vm.Alike t.vm → post r u → B u t → H.size ≤ H1.size → (∀ q : Nat, q < H.size → ¬ A1 q → H1[q]? = H[q]?) → va_S A0 H0 H1 locs1 → W p l e R s m args below meth c H1 locs1 (cells + mc) (slots + ms) Q (F0 m (pc + 3) ls (.float r :: rest))) : W p l e R s m args below meth c H locs cells slots Q (F0 m pc ls st0) := by
  intro T hT X
  rcases hr T hT X with ⟨v, st₀, t, T', L, h0, X', hL, e1, e2, ⟨⟨r, u, hv, hp, hb⟩, hF⟩, st⟩ | ⟨q, st₀, t, T', L, E, ce, h0, X', hL, e1, e2, ⟨u, hp, hb, hF⟩, hce, hcv, hcl, st⟩
  · cases hv
    obtain ⟨k1, k2, k3⟩ := vx_keep h0 e1 hS hA hf hL hF
    obtain ⟨t2, a1, b1⟩ := kk r u t T'.heap (locs ++ L) e1.symm (by rw [← e2]; exact X'.warmed.alike) hp hb k1 k2 k3 T' rfl X'
    exact ⟨t2, st t2 a1, b1⟩
  · obtain ⟨k1, k2, k3⟩ := vx_keep h0 e1 hS hAX hf hL hF
    obtain ⟨t2, a1, b1⟩ := kx E ce q u t T'.heap (locs ++ L) e1.symm (by rw [← e2]; exact X'.warmed.alike) hp hb k1 k2 k3 (by rw [e1]; exact hce) hcv hcl T' rfl X'
    exact ⟨t2, st.trans a1, b1⟩
theorem vx_calld {S SX : Type} {post : UInt64 → S → Prop} {px : SX → Prop} {B : S → State → Prop} {BX : String → SX → State → Prop} {AX : Nat → Prop} (hr : vx_Run p l e R s m args below meth c H locs cells slots mc ms (F0 m pc ls st0) rest (va_Qd post B A1 a) (vx_X px BX AX) free) (hS : va_S A0 H0 H locs) (hA : ∀ q, q < H.size → A1 q → A0 q) (hf : ∀ q, free q → A0 q) (hAX : ∀ q, q < H.size → AX q → A0 q)
    (kx : ∀ (E : String) (ce : Cell) (q9 : Addr) (u : SX) (t : State) (H1 : Heap) (locs1 : List Loc), t.heap = H1 → s.vm.Alike t.vm → px u → BX E u t → H.size ≤ H1.size → (∀ q : Nat, q < H.size → ¬ AX q → H1[q]? = H[q]?) → va_S A0 H0 H1 locs1 → H1[q9]? = some ce → ce.vm = .none → s.vm.findClass E = some ce.cls → vx_W p l e R s m args below meth c H1 locs1 (cells + mc) (slots + ms) Q (F0 m pc ls rest) q9)
    (kk : ∀ (r : UInt64) (u : S) (t : State) (H1 : Heap) (locs1 : List Loc), t.heap = H1 → s.vm.Alike t.vm → post r u → B u t → H.size ≤ H1.size → (∀ q : Nat, q < H.size → ¬ A1 q → H1[q]? = H[q]?) → va_S A0 H0 H1 locs1 → W p l e R s m args below meth c H1 locs1 (cells + mc) (slots + ms) Q (F0 m (pc + 3) ls (.double r :: rest))) : W p l e R s m args below meth c H locs cells slots Q (F0 m pc ls st0) := by
  intro T hT X
  rcases hr T hT X with ⟨v, st₀, t, T', L, h0, X', hL, e1, e2, ⟨⟨r, u, hv, hp, hb⟩, hF⟩, st⟩ | ⟨q, st₀, t, T', L, E, ce, h0, X', hL, e1, e2, ⟨u, hp, hb, hF⟩, hce, hcv, hcl, st⟩
  · cases hv
    obtain ⟨k1, k2, k3⟩ := vx_keep h0 e1 hS hA hf hL hF
    obtain ⟨t2, a1, b1⟩ := kk r u t T'.heap (locs ++ L) e1.symm (by rw [← e2]; exact X'.warmed.alike) hp hb k1 k2 k3 T' rfl X'
    exact ⟨t2, st t2 a1, b1⟩
  · obtain ⟨k1, k2, k3⟩ := vx_keep h0 e1 hS hAX hf hL hF
    obtain ⟨t2, a1, b1⟩ := kx E ce q u t T'.heap (locs ++ L) e1.symm (by rw [← e2]; exact X'.warmed.alike) hp hb k1 k2 k3 (by rw [e1]; exact hce) hcv hcl T' rfl X'
    exact ⟨t2, st.trans a1, b1⟩
theorem vx_callv {S SX : Type} {post : S → Prop} {px : SX → Prop} {B : S → State → Prop} {BX : String → SX → State → Prop} {AX : Nat → Prop} (hr : vx_Run p l e R s m args below meth c H locs cells slots mc ms (F0 m pc ls st0) rest (va_Qv post B A1 a) (vx_X px BX AX) free) (hS : va_S A0 H0 H locs) (hA : ∀ q, q < H.size → A1 q → A0 q) (hf : ∀ q, free q → A0 q) (hAX : ∀ q, q < H.size → AX q → A0 q)
    (kx : ∀ (E : String) (ce : Cell) (q9 : Addr) (u : SX) (t : State) (H1 : Heap) (locs1 : List Loc), t.heap = H1 → s.vm.Alike t.vm → px u → BX E u t → H.size ≤ H1.size → (∀ q : Nat, q < H.size → ¬ AX q → H1[q]? = H[q]?) → va_S A0 H0 H1 locs1 → H1[q9]? = some ce → ce.vm = .none → s.vm.findClass E = some ce.cls → vx_W p l e R s m args below meth c H1 locs1 (cells + mc) (slots + ms) Q (F0 m pc ls rest) q9)
    (kk : ∀ (u : S) (t : State) (H1 : Heap) (locs1 : List Loc), t.heap = H1 → s.vm.Alike t.vm → post u → B u t → H.size ≤ H1.size → (∀ q : Nat, q < H.size → ¬ A1 q → H1[q]? = H[q]?) → va_S A0 H0 H1 locs1 → W p l e R s m args below meth c H1 locs1 (cells + mc) (slots + ms) Q (F0 m (pc + 3) ls (rest))) : W p l e R s m args below meth c H locs cells slots Q (F0 m pc ls st0) := by
  intro T hT X
  rcases hr T hT X with ⟨v, st₀, t, T', L, h0, X', hL, e1, e2, ⟨⟨u, hv, hp, hb⟩, hF⟩, st⟩ | ⟨q, st₀, t, T', L, E, ce, h0, X', hL, e1, e2, ⟨u, hp, hb, hF⟩, hce, hcv, hcl, st⟩
  · cases hv
    obtain ⟨k1, k2, k3⟩ := vx_keep h0 e1 hS hA hf hL hF
    obtain ⟨t2, a1, b1⟩ := kk u t T'.heap (locs ++ L) e1.symm (by rw [← e2]; exact X'.warmed.alike) hp hb k1 k2 k3 T' rfl X'
    exact ⟨t2, st t2 a1, b1⟩
  · obtain ⟨k1, k2, k3⟩ := vx_keep h0 e1 hS hAX hf hL hF
    obtain ⟨t2, a1, b1⟩ := kx E ce q u t T'.heap (locs ++ L) e1.symm (by rw [← e2]; exact X'.warmed.alike) hp hb k1 k2 k3 (by rw [e1]; exact hce) hcv hcl T' rfl X'
    exact ⟨t2, st.trans a1, b1⟩
/-- caught by the row x of this method's table; the rows ahead don't take it -/
theorem vx_catch {own name : String} {E : String} {ce : Cell} {q : Addr} (hown : s.vm.findClass own = some m.cls) (pre : List ExceptionTableEntry) (x : ExceptionTableEntry) (suf : List ExceptionTableEntry) (hsplit : c.exceptionTable.toList = pre ++ x :: suf)
    (hpass : ∀ z ∈ pre, covers z pc = false ∨ (z.catchType ≠ 0 ∧ ∃ nm : String, (Cond.classLink own z.catchType nm).before args s = true ∧ va_Nc E nm s)) (hx : covers x pc = true) (h0 : x.catchType ≠ 0)
    (hlink : (Cond.classLink own x.catchType name).before args s = true) (hcast : (Cond.castable E name).before args s = true) (hcell : H[q]? = some ce) (hv : ce.vm = .none) (hcl : s.vm.findClass E = some ce.cls)
    (kk : W p l e R s m args below meth c H locs cells slots Q (F0 m x.handlerPc ls [.ref q])) : vx_W p l e R s m args below meth c H locs cells slots Q (F0 m pc ls rest) q := by
  intro T hT X
  have hpl : e.platform.magicAccessors = ({} : Platform).magicAccessors := by rw [X.admits.platform]
  obtain ⟨c3, c4, hc3, hc4, hasg⟩ := Cond.castable_spec hcast
  cases Option.some.inj (hc3.symm.trans hcl)
  obtain ⟨c5, hc5, hcl5⟩ := Cond.classLink_spec hown hlink e.platform hpl
  cases Option.some.inj (hc4.symm.trans hc5)
  obtain ⟨vm', X', st⟩ := Jvm.Stand.thenCaughtThrough X q (g := F0 m pc ls rest) rfl (Steps.refl _) (by rw [hT]; exact hcell) (by rw [hv]; rfl) (by obtain ⟨k9, h9, -⟩ := Vm.findClass_spec hcl; exact ⟨k9, h9⟩) pre x suf hsplit
    (fun z hz => by
      rcases hpass z hz with h | ⟨hz0, nm, hl1, hn1⟩
      · exact Or.inl h
      · obtain ⟨c6, hc6, hcl6⟩ := Cond.classLink_spec hown hl1 e.platform hpl
        obtain ⟨a8, b8, h1, h2, h3⟩ := hn1
        cases Option.some.inj (h1.symm.trans hcl)
        cases Option.some.inj (h2.symm.trans hc6)
        exact Or.inr ⟨hz0, _, hcl6, h3⟩) hx (Or.inr ⟨h0, c4, hcl5, hasg⟩)
  obtain ⟨t, a1, b1⟩ := kk (T.setVm vm') hT X'
  exact ⟨t, st.trans a1, b1⟩
end Rows
section Ends
variable {p : Program} {l : Launch} {e : Env} {R : Room} {s : State} {m : MethodId} {args : Array Value} {below : List Frame} {meth : Method} {c : Code} {H : Heap} {locs : List Loc} {cells slots : Nat} {Q : State → Prop}
variable {mc ms : Nat} {free : Addr → Prop} {A0 A1 : Nat → Prop} {H0 : Heap} {a : Array Value} {ls : Array Slot} {st0 rest : List Value}
variable {Qc : Array Value → State → Outcome → State → Prop} {XC : String → State → State → Prop}
/-- what a body that may throw owes at its end -/
def vx_MQ (below : List Frame) (Qc : Array Value → State → Outcome → State → Prop) (XC : String → State → State → Prop) (a : Array Value) (s : State) (mc ms : Nat) (free : Addr → Prop) : State → Prop := fun t =>
  ∃ o, t.status = .running ∧ Ended t below o ∧ vx_Q Qc XC mc ms free a s o t
theorem vx_ret {g : JFrame} {mc ms : Nat} (k : W p l e R s m args below meth c H locs cells slots (MQ below Qc args s mc ms free) g) : W p l e R s m args below meth c H locs cells slots (vx_MQ below Qc XC args s mc ms free) g := by
  intro T hT X
  obtain ⟨t, a1, o, b1, b2, b3, b4⟩ := k T hT X
  exact ⟨t, a1, o, b1, b2, Or.inl ⟨b3, b4⟩⟩
/-- not caught here: it goes on to the caller -/
theorem vx_widen {g : JFrame} {q : Addr} {k n : Nat} (h1 : cells ≤ k) (h2 : slots ≤ n) (kk : vx_W p l e R s m args below meth c H locs k n Q g q) : vx_W p l e R s m args below meth c H locs cells slots Q g q := fun T hT X => kk T hT (stand_widen X h1 h2)
theorem vx_out {pc : Nat} {E : String} {ce : Cell} {q : Addr} {mc ms : Nat} (hout : ∀ x ∈ c.exceptionTable.toList, covers x pc = false) (hlocks : meth.locks = false) (hcell : H[q]? = some ce) (hv : ce.vm = .none) (hcl : s.vm.findClass E = some ce.cls)
    (hx : ∀ t : State, t.heap = H → s.vm.Alike t.vm → XC E s t) (hf : ∀ z ∈ locs, free z.base) (hc : cells ≤ mc) (hs : slots ≤ ms) :
    vx_W p l e R s m args below meth c H locs cells slots (vx_MQ below Qc XC args s mc ms free) (F0 m pc ls rest) q := by
  intro T hT X
  obtain ⟨st1, hrun, hend, hW, hsm⟩ := X.leaveThrown q (g := F0 m pc ls rest) rfl rfl rfl hout hlocks
  have hcell9 : (T.setFrames (.throwing q :: below)).heap[q]? = some ce := by
    show T.heap[q]? = some ce
    rw [hT]; exact hcell
  exact ⟨_, st1, .threw q, hrun, hend, Or.inr ⟨q, rfl, E, ce, locs, hx _ hT hW.alike, hcell9, hv, hcl, hW, hsm.mono hc hs, hf⟩⟩
theorem vx_frame {U : State} {k n : Nat} (h : s.sameButNew ({ U with vm := s.vm } : State) locs k n) : s.heap.size ≤ U.heap.size ∧ ∀ q : Nat, q < s.heap.size → (∀ z ∈ locs, z.base ≠ q) → U.heap[q]? = s.heap[q]? := by
  obtain ⟨-, h2, -, -, -, h6⟩ := h
  refine ⟨h2, fun q hq hz => ?_⟩
  obtain ⟨c9, e1, e2, e3, e4⟩ := h6 q _ (Array.getElem?_eq_getElem hq)
  have hs : c9.slots = (s.heap[q]).slots := Array.ext_getElem? fun i => e4 i fun hm => hz _ hm rfl
  have h9 : c9 = s.heap[q] := by
    rw [hs] at e2
    exact e2
  have e5 : U.heap[q]? = some c9 := e1
  rw [e5, h9, Array.getElem?_eq_getElem hq]
/-- the words of a throw but the four that speak of the heap -/
def vx_no (w : Cond) : Bool := decide (w ≠ .isRef (.static Bundle.tN "UNASSIGNED_STACK" Bundle.steD)) && decide (w ≠ .isRef (.static Bundle.tN "SUPPRESSED_SENTINEL" Bundle.listD)) && decide (w ≠ .laysStatic Bundle.tN "UNASSIGNED_STACK" Bundle.steD) && decide (w ≠ .laysStatic Bundle.tN "SUPPRESSED_SENTINEL" Bundle.listD)
def vx_at0 (own : String) (ic : Nat) (X : String) (names : List String) : List Cond := (Bundle.ownAtoms0 own ic X names).filter vx_no
def vx_atS (own : String) (ic : Nat) (X : String) (names : List String) : List Cond := (Bundle.ownAtoms own ic X names).filter vx_no
/-- a word that the tables alone decide, or a good one -/
def vx_ot (w : Cond) : Bool := w.onTables || goodWord w
theorem vx_ot_at {args a' : Array Value} {s U : State} {w : Cond} (hW : s.WarmedH U.vm) (hvm : s.vm = U.vm) (hg : vx_ot w = true) (h : w.before args s = true) : w.before a' U = true := by
  simp only [vx_ot, Bool.or_eq_true] at hg
  rcases hg with hg | hg
  · exact va_tabs hg hvm h
  · exact word_at hW (good_of_word hg) h
/-- a list's words: the good ones out of the method's own list, the others by premises of their own -/
theorem vx_hat {args : Array Value} {s : State} {L B : List Cond} (h1 : ∀ w ∈ L.filter goodWord, w.before args s = true) (h2 : ∀ w ∈ L.filter (fun w => !goodWord w), w ∈ B) (h3 : ∀ w ∈ B, w.before args s = true) : ∀ w ∈ L, w.before args s = true := by
  intro w hw
  by_cases g : goodWord w = true
  · exact h1 w (List.mem_filter.mpr ⟨hw, g⟩)
  · refine h3 w (h2 w (List.mem_filter.mpr ⟨hw, ?_⟩))
    show (!goodWord w) = true
    cases hgw : goodWord w
    · rfl
    · exact absurd hgw g
theorem vx_c {args : Array Value} {s : State} {w : Cond} {B : List Cond} (h : w.before args s = true) (t : ∀ w ∈ B, w.before args s = true) : ∀ w' ∈ w :: B, w'.before args s = true := fun w' h' => (List.mem_cons.mp h').elim (fun e => by rw [e]; exact h) (t w')
theorem vx_n {args : Array Value} {s : State} : ∀ w ∈ ([] : List Cond), w.before args s = true := fun _ h => nomatch h
theorem vx_own {args : Array Value} {s : State} {L : List Cond} (h1 : ∀ w ∈ L.filter vx_no, w.before args s = true)
    (hU : (Cond.isRef (.static Bundle.tN "UNASSIGNED_STACK" Bundle.steD)).before args s = true) (hN : (Cond.isRef (.static Bundle.tN "SUPPRESSED_SENTINEL" Bundle.listD)).before args s = true)
    (lU : (Cond.laysStatic Bundle.tN "UNASSIGNED_STACK" Bundle.steD).before args s = true) (lN : (Cond.laysStatic Bundle.tN "SUPPRESSED_SENTINEL" Bundle.listD).before args s = true) : ∀ w ∈ L, w.before args s = true := by
  intro w hw
  by_cases e1 : w = .isRef (.static Bundle.tN "UNASSIGNED_STACK" Bundle.steD)
  · rw [e1]; exact hU
  · by_cases e2 : w = .isRef (.static Bundle.tN "SUPPRESSED_SENTINEL" Bundle.listD)
    · rw [e2]; exact hN
    · by_cases e3 : w = .laysStatic Bundle.tN "UNASSIGNED_STACK" Bundle.steD
      · rw [e3]; exact lU
      · by_cases e4 : w = .laysStatic Bundle.tN "SUPPRESSED_SENTINEL" Bundle.listD
        · rw [e4]; exact lN
        · exact h1 w (List.mem_filter.mpr ⟨hw, by unfold vx_no; rw [decide_eq_true e1, decide_eq_true e2, decide_eq_true e3, decide_eq_true e4]; rfl⟩)
/-- where a static field lies, its class's statics cell in H -/
def vx_L (C n d : String) (A : Nat → Prop) (U : State) (H : Heap) : Prop := ∃ (c : ClassId) (k : Class) (i : Nat) (f : Field) (a : Nat) (cell : Cell), U.vm.findClass C = some c ∧ U.fieldFound? C n d = some (c, k, i, f) ∧ f.isStatic = true ∧ k.statics = some a ∧ H[a]? = some cell ∧ cell.vm.isStatics = true ∧ cell.cls = c ∧ f.slot < cell.slots.size ∧ k.staticTypes[f.slot]? = some f.type ∧ ¬ A a
theorem vx_L.moved {C n d : String} {A : Nat → Prop} {u U : State} {H : Heap} (hvm : u.vm.Alike U.vm) (h : vx_L C n d A u H) : vx_L C n d A U H := by
  obtain ⟨c, k, i, f, a, cell, h1, h2, h3, h4, h5, h6, h7, h8, h9, h10⟩ := h
  obtain ⟨k', hi', he⟩ := State.fieldFound?_setVm hvm h2
  exact ⟨c, k', i, f, a, cell, by rw [hvm.findClass]; exact h1, hi', h3, by rw [he]; exact h4, h5, h6, h7, h8, by rw [he]; exact h9, h10⟩
theorem vx_L.kept {C n d : String} {A : Nat → Prop} {U : State} {H H1 : Heap} (h : vx_L C n d A U H) (hq : ∀ a : Nat, a < H.size → ¬ A a → H1[a]? = H[a]?) : vx_L C n d A U H1 := by
  obtain ⟨c, k, i, f, a, cell, h1, h2, h3, h4, h5, h6, h7, h8, h9, h10⟩ := h
  exact ⟨c, k, i, f, a, cell, h1, h2, h3, h4, by rw [hq a (Array.getElem?_eq_some_iff.mp h5).1 h10]; exact h5, h6, h7, h8, h9, h10⟩
theorem vx_L.narrow {C n d : String} {A B : Nat → Prop} {U : State} {H : Heap} (h : vx_L C n d A U H) (hAB : ∀ q, B q → A q) : vx_L C n d B U H := by
  obtain ⟨c, k, i, f, a, cell, h1, h2, h3, h4, h5, h6, h7, h8, h9, h10⟩ := h
  exact ⟨c, k, i, f, a, cell, h1, h2, h3, h4, h5, h6, h7, h8, h9, fun z => h10 (hAB _ z)⟩
theorem vx_L.word {C n d : String} {A : Nat → Prop} {s : State} {args : Array Value} (h : vx_L C n d A s s.heap) : (Cond.laysStatic C n d).before args s = true := by
  obtain ⟨c, k, i, f, a, cell, h1, h2, h3, h4, h5, h6, h7, h8, h9, -⟩ := h
  show (Cond.laysStatic C n d).holds args s none s [] = true
  exact Cond.laysStatic_of h1 h2 h3 h4 h5 h6 h7 h8 h9
/-- .. and what it holds: null or some reference -/
def vx_Zq (C n d : String) (A : Nat → Prop) (U : State) (H : Heap) : Prop := va_Zq C n d A U H ∧ vx_L C n d A U H
theorem vx_Zq.moved {C n d : String} {A : Nat → Prop} {u U : State} {H : Heap} (hvm : u.vm.Alike U.vm) (h : vx_Zq C n d A u H) : vx_Zq C n d A U H := ⟨va_Zq.moved hvm h.1, vx_L.moved hvm h.2⟩
theorem vx_Zq.kept {C n d : String} {A : Nat → Prop} {U : State} {H H1 : Heap} (h : vx_Zq C n d A U H) (hq : ∀ a : Nat, a < H.size → ¬ A a → H1[a]? = H[a]?) : vx_Zq C n d A U H1 := ⟨va_Zq.kept h.1 hq, vx_L.kept h.2 hq⟩
theorem vx_Zq.narrow {C n d : String} {A B : Nat → Prop} {U : State} {H : Heap} (h : vx_Zq C n d A U H) (hAB : ∀ q, B q → A q) : vx_Zq C n d B U H := ⟨va_Zq.narrow h.1 hAB, vx_L.narrow h.2 hAB⟩
theorem vx_Zqof {args : Array Value} {s : State} {C n d : String} {A : Nat → Prop} (hl : (Cond.laysStatic C n d).before args s = true) (hini : (Cond.initialized C).before args s = true) (h : (Cond.isRef (.static C n d)).before args s = true) (hA : ∀ a : Nat, a < s.heap.size → ¬ A a) : vx_Zq C n d A s s.heap := by
  refine ⟨va_Zqof hl hini h hA, ?_⟩
  obtain ⟨c, k, i, f, a, cell, h1, h2, h3, h4, h5, h6, h7, h8, h9⟩ := Cond.laysStatic_spec hl
  exact ⟨c, k, i, f, a, cell, h1, h2, h3, h4, h5, h6, h7, h8, h9, hA a (Array.getElem?_eq_some_iff.mp h5).1⟩
theorem vx_isRef {C n d : String} {v : Value} {A : Nat → Prop} {s : State} {args : Array Value} (h : va_Z C n d v A s s.heap) (hv : v.isRef = true) : (Cond.isRef (.static C n d)).before args s = true := by
  obtain ⟨cf, kf, fi, f, a, cell, h1, h2, h3, h4, h5, h6, h7, -⟩ := h
  have he : (Term.static C n d).eval args s none [] s = some v := by
    simp [Term.eval, State.fieldNamed?, h1, h2, h4, h5, h6, h7]
  simp only [Cond.before, Cond.holds, Cond.value, he]
  cases v <;> simp_all [Value.isRef]
theorem vx_isRefq {C n d : String} {A : Nat → Prop} {s : State} {args : Array Value} (h : va_Zq C n d A s s.heap) : (Cond.isRef (.static C n d)).before args s = true := by
  rcases h with h | ⟨t, h⟩
  · exact vx_isRef h rfl
  · exact vx_isRef h rfl
/-- the same frame, seen from here: as if the method were called anew in this heap -/
theorem vx_rebase {T : State} (X : Stand p l e R s m args below meth c T locs cells slots) {R' : Room} (hf : R'.frames ≤ R.frames) (hl : R'.locals ≤ R.locals) (hc : cells + R'.cells ≤ R.cells) (hs : slots + R'.slots ≤ R.slots) :
    Stand p l e R' ((T.setVm s.vm).setFrames (.invoking m args :: below)) m args below meth c T [] 0 0 := by
  have htop : (T.setVm s.vm).topJava?.isSome := X.here.top
  have hF : ((T.setVm s.vm).setFrames (.invoking m args :: below)).frames = .invoking m args :: below := State.frames_setFrames _ (State.cur_lt_of_top htop)
  obtain ⟨g₀, hg0⟩ := Option.isSome_iff_exists.mp htop
  obtain ⟨r, hr⟩ := State.topJava?_eq_some.mp hg0
  have hl9 : e.platform.stackLimits (T.setVm s.vm).me = e.platform.stackLimits s.me := X.limits
  have hb9 : (T.setVm s.vm).me.stackBytes = s.me.stackBytes := X.bytes
  refine ⟨X.admits, X.cas, X.clock, hF, ?_, X.hears, X.method, X.code, X.here, X.tail, X.warmed, ?_, ?_, ?_⟩
  · have h := X.room
    have hU : ((T.setVm s.vm).setFrames (.invoking m args :: below)).localsInUse = s.localsInUse := by
      rw [State.localsInUse_invoking hF (meth := meth) (c := c) X.method X.code, State.localsInUse_invoking X.frames X.method X.code]
    simp only [State.hasRoom, Bool.and_eq_true, decide_eq_true_eq] at h ⊢
    obtain ⟨⟨⟨⟨h1, h2, h3, h4, h5, h6⟩, h7⟩, h8⟩, h9⟩ := h
    rw [X.frames, List.length_cons] at h2 h3
    have q1 := X.heapSize
    have q2 := X.used
    simp only [hF, hU, List.length_cons, State.stackLimits_setFrames, State.stackBytes_setFrames, hl9, hb9]
    refine ⟨⟨⟨⟨by omega, by omega, by omega, by omega, by omega, h6⟩, ?_⟩, ?_⟩, X.book⟩
    · show T.heap.size + R'.cells ≤ e.platform.maxCells
      omega
    · show T.slotsUsed + R'.slots ≤ e.platform.maxSlots
      omega
  · rw [State.stackLimits_setFrames]; rfl
  · rw [State.stackBytes_setFrames]; rfl
  · refine ⟨?_, Nat.le_refl _, Nat.le_refl _, ?_, ?_, fun a c9 h9 => ⟨c9, h9, rfl, rfl, fun _ _ => rfl⟩⟩
    · obtain ⟨t, ht, -⟩ := State.frames_cons hr
      show T.setVm s.vm = { ((T.setVm s.vm).setFrames (.invoking m args :: below)).setFrames (T.setVm s.vm).frames with heap := T.heap, slotsUsed := T.slotsUsed }
      rw [State.setFrames_setFrames, State.setFrames_self ht]
      rfl
    · show T.slotsUsed = T.slotsUsed + ((T.heap.toList.drop T.heap.size).map (·.slots.size)).sum
      rw [List.drop_eq_nil_of_le (Nat.le_of_eq Array.length_toList)]
      rfl
    · show ((T.heap.toList.drop T.heap.size).map (·.slots.size)).sum ≤ 0
      rw [List.drop_eq_nil_of_le (Nat.le_of_eq Array.length_toList)]
      exact Nat.le_refl _
/-- 'throw new E()': new; dup; invokespecial; athrow -/
theorem vx_throw0 {cc : ByteArray} {pc : Nat} (hexec : p.tables.exec = Jvm.exec) (hb : c.code = cc) (hl : l.stackTraces = false) {own cls : String} {names : List String} {ik ic mc ms : Nat} {A : Nat → Prop}
    (hown : s.vm.findClass own = some m.cls) (hcls : Bundle.fit cls = true) (hnames : ∀ n ∈ names, Bundle.fit n = true)
    (hk : (Cond.classLink own ik cls).before args s = true) (hini : (Cond.initialized cls).before args s = true) (hat : ∀ w ∈ vx_at0 own ic cls names, w.before args s = true)
    (hgood : ∀ w ∈ Cond.classLink own ik cls :: Cond.initialized cls :: vx_at0 own ic cls names, vx_ot w = true)
    (hU : vx_Zq Bundle.tN "UNASSIGNED_STACK" Bundle.steD A s s.heap) (hN : vx_Zq Bundle.tN "SUPPRESSED_SENTINEL" Bundle.listD A s s.heap) (hS : va_S A s.heap H locs) (hsize : ls.size = c.maxLocals)
    (d0 : decode cc pc = .ok (.new ik, 3)) (d3 : decode cc (pc + 3) = .ok (.dup, 1)) (d4 : decode cc (pc + 4) = .ok (.invokespecial ic, 3)) (d7 : decode cc (pc + 7) = .ok (.athrow, 1))
    (hout : ∀ x ∈ c.exceptionTable.toList, covers x (pc + 7) = false)
    (hRframes : names.length + 3 < R.frames) (hRlocals : (rest.map fun v => v.category).sum + (13 * (names.length + 1) + 42) ≤ R.locals) (hRcells : cells + 1 ≤ R.cells) (hRslots : slots + 6 ≤ R.slots) (hlocks : meth.locks = false)
    (hx : ∀ t : State, s.vm.Alike t.vm → H.size ≤ t.heap.size → (∀ q : Nat, q < H.size → t.heap[q]? = H[q]?) → XC cls s t)
    (hf : ∀ z ∈ locs, free z.base) (hc : cells + 1 ≤ mc) (hs : slots + 6 ≤ ms) :
    W p l e R s m args below meth c H locs cells slots (vx_MQ below Qc XC args s mc ms free) (F0 m pc ls rest) := by
  intro T hT X
  have htr : e.platform.stackTraces = false := (show e.platform.stackTraces = l.stackTraces by rw [X.admits.platform]).trans hl
  have Y := vx_rebase X (R' := { frames := R.frames, locals := R.locals, cells := 1, slots := 6 }) (Nat.le_refl _) (Nat.le_refl _) hRcells hRslots
  obtain ⟨s', hA⟩ : ∃ z, z = (T.setVm s.vm).setFrames (.invoking m args :: below) := ⟨_, rfl⟩
  rw [← hA] at Y
  have hvm : s'.vm = s.vm := by rw [hA]; rfl
  have hhp : s'.heap = H := by rw [hA]; exact hT
  have hW0 : s.WarmedH s'.vm := by rw [hvm]; exact State.WarmedH.refl s
  have hat' : ∀ w ∈ vx_at0 own ic cls names, w.before args s' = true := fun w hw => vx_ot_at hW0 hvm.symm (hgood w (List.mem_cons_of_mem _ (List.mem_cons_of_mem _ hw))) (hat w hw)
  have hk' : (Cond.classLink own ik cls).before args s' = true := vx_ot_at hW0 hvm.symm (hgood _ List.mem_cons_self) hk
  have hini' : (Cond.initialized cls).before args s' = true := vx_ot_at hW0 hvm.symm (hgood _ (List.mem_cons_of_mem _ List.mem_cons_self)) hini
  have hU' : vx_Zq Bundle.tN "UNASSIGNED_STACK" Bundle.steD A s' s'.heap := by rw [hhp]; exact vx_Zq.moved hW0.alike (hU.kept hS.2.1)
  have hN' : vx_Zq Bundle.tN "SUPPRESSED_SENTINEL" Bundle.listD A s' s'.heap := by rw [hhp]; exact vx_Zq.moved hW0.alike (hN.kept hS.2.1)
  have h : ∀ w ∈ Bundle.ownAtoms0 own ic cls names, w.before args s' = true := vx_own hat' (vx_isRefq hU'.1) (vx_isRefq hN'.1) hU'.2.word hN'.2.word
  have hown' : s'.vm.findClass own = some m.cls := by rw [hvm]; exact hown
  have hins : (Cond.instantiable cls 6).before args s' = true := h _ (by simp [Bundle.ownAtoms0])
  obtain ⟨vm₁, cX, kX, hfX, hkX, -, -, X₁, st1⟩ := Y.newCold hexec (own := own) (C := cls) (index := ik) (n := 6) hown' hk' hins hini'
    (g := F0 m pc ls rest) rfl (by rw [hb]; exact d0) (Nat.le_refl _) (Nat.le_refl _)
  generalize hT1 : (T.setVm vm₁).pushCell { cls := cX, slots := kX.instanceTypes.map defaultValue, vm := .none } = T1 at X₁ st1
  have hcat : (Value.ref T.heap.size).category = 1 := rfl
  have hcellA : T1.heap[T.heap.size]? = some (freshCell cX kX) := by rw [← hT1]; exact State.heap_pushCell_size _ _
  have d3' : decode c.code (pc + 3) = .ok (.dup, 1) := by rw [hb]; exact d3
  obtain ⟨U, hsteps, hrun, hend, hW, hsame, ce, hce, hO⟩ := X₁.ctorThrow0 hexec htr (own := own) (cls := cls) (names := names) (ic := ic) hown' hcls hnames h (fun x hx => nomatch hx) hfX hkX hcellA (by rw [hhp, hT]; exact Nat.le_refl _)
    (g := { method := m, pc := pc + 4, locals := ls, stack := .ref T.heap.size :: .ref T.heap.size :: rest, locked := none }) rfl hsize rfl rfl (rest := rest) rfl
    (by rw [hb]; exact d4) (by rw [hb]; exact d7) hout hRframes (by simp only [List.map_cons, List.sum_cons, hcat]; omega) hlocks
  obtain ⟨f1, f2⟩ := vx_frame hsame
  rw [hhp] at f1 f2
  have hWs : s.WarmedH U.vm := State.WarmedH.trans hW0 hW
  have hcl : s.vm.findClass cls = some ce.cls := by
    have h9 := hO.cls
    rw [hvm] at h9
    exact h9
  have hall : s.sameButNew ({ U with vm := s.vm } : State) locs mc ms := by
    subst hA
    obtain ⟨e1, e2⟩ := hsame
    rw [State.setFrames_setFrames] at e1
    have h2 : (T.setVm s.vm).sameButNew ({ U with vm := s.vm } : State) [] (0 + 1) (0 + 6) := ⟨e1, e2⟩
    have h3 := X.same.trans h2
    rw [List.append_nil] at h3
    exact h3.mono hc hs
  refine ⟨U, ?_, .threw T.heap.size, hrun, hend, Or.inr ⟨T.heap.size, rfl, cls, ce, locs, hx U hWs.alike f1 (fun q hq => f2 q hq (fun z hz => nomatch hz)), hce, hO.vm, hcl, hWs, hall, hf⟩⟩
  refine st1 _ ?_
  show Steps p.tables e below (T1.setTop { method := m, pc := pc + 3, locals := ls, stack := .ref T.heap.size :: rest, locked := none }) _
  jvm_step X₁.here [X₁.here.top, hexec, d3', Value.category]
  exact hsteps
/-- 'throw new E("text")': new; dup; ldc; invokespecial; athrow -/
theorem vx_throwS {cc : ByteArray} {pc : Nat} (hexec : p.tables.exec = Jvm.exec) (hb : c.code = cc) (hl : l.stackTraces = false) {own cls text : String} {names : List String} {ik is ic mc ms sa : Nat} {A : Nat → Prop}
    (hown : s.vm.findClass own = some m.cls) (hcls : Bundle.fit cls = true) (hnames : ∀ n ∈ names, Bundle.fit n = true)
    (hk : (Cond.classLink own ik cls).before args s = true) (hini : (Cond.initialized cls).before args s = true) (hstr : vk_R own is text sa s) (hat : ∀ w ∈ vx_atS own ic cls names, w.before args s = true)
    (hgood : ∀ w ∈ Cond.classLink own ik cls :: Cond.initialized cls :: vx_atS own ic cls names, vx_ot w = true)
    (hU : vx_Zq Bundle.tN "UNASSIGNED_STACK" Bundle.steD A s s.heap) (hN : vx_Zq Bundle.tN "SUPPRESSED_SENTINEL" Bundle.listD A s s.heap) (hS : va_S A s.heap H locs) (hsize : ls.size = c.maxLocals)
    (d0 : decode cc pc = .ok (.new ik, 3)) (d3 : decode cc (pc + 3) = .ok (.dup, 1)) (d4 : decode cc (pc + 4) = .ok (.ldc is, 2)) (d6 : decode cc (pc + 6) = .ok (.invokespecial ic, 3)) (d9 : decode cc (pc + 9) = .ok (.athrow, 1))
    (hout : ∀ x ∈ c.exceptionTable.toList, covers x (pc + 9) = false)
    (hRframes : names.length + 3 < R.frames) (hRlocals : (rest.map fun v => v.category).sum + (13 * (names.length + 1) + 43) ≤ R.locals) (hRcells : cells + 1 ≤ R.cells) (hRslots : slots + 6 ≤ R.slots) (hlocks : meth.locks = false)
    (hx : ∀ t : State, s.vm.Alike t.vm → H.size ≤ t.heap.size → (∀ q : Nat, q < H.size → t.heap[q]? = H[q]?) → XC cls s t)
    (hf : ∀ z ∈ locs, free z.base) (hc : cells + 1 ≤ mc) (hs : slots + 6 ≤ ms) :
    W p l e R s m args below meth c H locs cells slots (vx_MQ below Qc XC args s mc ms free) (F0 m pc ls rest) := by
  intro T hT X
  have htr : e.platform.stackTraces = false := (show e.platform.stackTraces = l.stackTraces by rw [X.admits.platform]).trans hl
  have Y := vx_rebase X (R' := { frames := R.frames, locals := R.locals, cells := 1, slots := 6 }) (Nat.le_refl _) (Nat.le_refl _) hRcells hRslots
  obtain ⟨s', hA⟩ : ∃ z, z = (T.setVm s.vm).setFrames (.invoking m args :: below) := ⟨_, rfl⟩
  rw [← hA] at Y
  have hvm : s'.vm = s.vm := by rw [hA]; rfl
  have hhp : s'.heap = H := by rw [hA]; exact hT
  have hW0 : s.WarmedH s'.vm := by rw [hvm]; exact State.WarmedH.refl s
  have hat' : ∀ w ∈ vx_atS own ic cls names, w.before args s' = true := fun w hw => vx_ot_at hW0 hvm.symm (hgood w (List.mem_cons_of_mem _ (List.mem_cons_of_mem _ hw))) (hat w hw)
  have hk' : (Cond.classLink own ik cls).before args s' = true := vx_ot_at hW0 hvm.symm (hgood _ List.mem_cons_self) hk
  have hini' : (Cond.initialized cls).before args s' = true := vx_ot_at hW0 hvm.symm (hgood _ (List.mem_cons_of_mem _ List.mem_cons_self)) hini
  have hU' : vx_Zq Bundle.tN "UNASSIGNED_STACK" Bundle.steD A s' s'.heap := by rw [hhp]; exact vx_Zq.moved hW0.alike (hU.kept hS.2.1)
  have hN' : vx_Zq Bundle.tN "SUPPRESSED_SENTINEL" Bundle.listD A s' s'.heap := by rw [hhp]; exact vx_Zq.moved hW0.alike (hN.kept hS.2.1)
  have h : ∀ w ∈ Bundle.ownAtoms own ic cls names, w.before args s' = true := vx_own hat' (vx_isRefq hU'.1) (vx_isRefq hN'.1) hU'.2.word hN'.2.word
  have hown' : s'.vm.findClass own = some m.cls := by rw [hvm]; exact hown
  have hins : (Cond.instantiable cls 6).before args s' = true := h _ (by simp [Bundle.ownAtoms])
  obtain ⟨vm₁, cX, kX, hfX, hkX, -, -, X₁, st1⟩ := Y.newCold hexec (own := own) (C := cls) (index := ik) (n := 6) hown' hk' hins hini'
    (g := F0 m pc ls rest) rfl (by rw [hb]; exact d0) (Nat.le_refl _) (Nat.le_refl _)
  generalize hT1 : (T.setVm vm₁).pushCell { cls := cX, slots := kX.instanceTypes.map defaultValue, vm := .none } = T1 at X₁ st1
  have hcat : (Value.ref T.heap.size).category = 1 := rfl
  have hcellA : T1.heap[T.heap.size]? = some (freshCell cX kX) := by rw [← hT1]; exact State.heap_pushCell_size _ _
  have d3' : decode c.code (pc + 3) = .ok (.dup, 1) := by rw [hb]; exact d3
  have d4' : decode c.code (pc + 4) = .ok (.ldc is, 2) := by rw [hb]; exact d4
  have hstr' : vk_R own is text sa s' := vk_R.warm hW0 hstr
  obtain ⟨U, hsteps, hrun, hend, hW, hsame, ce, hce, hO⟩ := X₁.ctorThrowS hexec htr (own := own) (cls := cls) (names := names) (ic := ic) hown' hcls hnames h (fun x hx => nomatch hx) hfX hkX hcellA (by rw [hhp, hT]; exact Nat.le_refl _) (msg := .ref sa) rfl
    (g := { method := m, pc := pc + 6, locals := ls, stack := .ref sa :: .ref T.heap.size :: .ref T.heap.size :: rest, locked := none }) rfl hsize rfl rfl (rest := rest) rfl
    (by rw [hb]; exact d6) (by rw [hb]; exact d9) hout hRframes (by simp only [List.map_cons, List.sum_cons, hcat]; omega) hlocks
  obtain ⟨f1, f2⟩ := vx_frame hsame
  rw [hhp] at f1 f2
  have hWs : s.WarmedH U.vm := State.WarmedH.trans hW0 hW
  have hcl : s.vm.findClass cls = some ce.cls := by
    have h9 := hO.cls
    rw [hvm] at h9
    exact h9
  have hall : s.sameButNew ({ U with vm := s.vm } : State) locs mc ms := by
    subst hA
    obtain ⟨e1, e2⟩ := hsame
    rw [State.setFrames_setFrames] at e1
    have h2 : (T.setVm s.vm).sameButNew ({ U with vm := s.vm } : State) [] (0 + 1) (0 + 6) := ⟨e1, e2⟩
    have h3 := X.same.trans h2
    rw [List.append_nil] at h3
    exact h3.mono hc hs
  refine ⟨U, ?_, .threw T.heap.size, hrun, hend, Or.inr ⟨T.heap.size, rfl, cls, ce, locs, hx U hWs.alike f1 (fun q hq => f2 q hq (fun z hz => nomatch hz)), hce, hO.vm, hcl, hWs, hall, hf⟩⟩
  refine st1 _ ?_
  show Steps p.tables e below (T1.setTop { method := m, pc := pc + 3, locals := ls, stack := .ref T.heap.size :: rest, locked := none }) _
  jvm_step X₁.here [X₁.here.top, hexec, d3', Value.category]
  exact X₁.ldcString hexec (own := own) (text := text) (index := is) (a := sa) hown' hstr'.1 hstr'.2
    (g := { method := m, pc := pc + 4, locals := ls, stack := .ref T.heap.size :: .ref T.heap.size :: rest, locked := none }) rfl d4' _ hsteps
/-- 'throw new E("text")', the text by a wide index -/
theorem vx_throwSW {cc : ByteArray} {pc : Nat} (hexec : p.tables.exec = Jvm.exec) (hb : c.code = cc) (hl : l.stackTraces = false) {own cls text : String} {names : List String} {ik is ic mc ms sa : Nat} {A : Nat → Prop}
    (hown : s.vm.findClass own = some m.cls) (hcls : Bundle.fit cls = true) (hnames : ∀ n ∈ names, Bundle.fit n = true)
    (hk : (Cond.classLink own ik cls).before args s = true) (hini : (Cond.initialized cls).before args s = true) (hstr : vk_R own is text sa s) (hat : ∀ w ∈ vx_atS own ic cls names, w.before args s = true)
    (hgood : ∀ w ∈ Cond.classLink own ik cls :: Cond.initialized cls :: vx_atS own ic cls names, vx_ot w = true)
    (hU : vx_Zq Bundle.tN "UNASSIGNED_STACK" Bundle.steD A s s.heap) (hN : vx_Zq Bundle.tN "SUPPRESSED_SENTINEL" Bundle.listD A s s.heap) (hS : va_S A s.heap H locs) (hsize : ls.size = c.maxLocals)
    (d0 : decode cc pc = .ok (.new ik, 3)) (d3 : decode cc (pc + 3) = .ok (.dup, 1)) (d4 : decode cc (pc + 4) = .ok (.ldc_w is, 3)) (d7 : decode cc (pc + 7) = .ok (.invokespecial ic, 3)) (d10 : decode cc (pc + 10) = .ok (.athrow, 1))
    (hout : ∀ x ∈ c.exceptionTable.toList, covers x (pc + 10) = false)
    (hRframes : names.length + 3 < R.frames) (hRlocals : (rest.map fun v => v.category).sum + (13 * (names.length + 1) + 43) ≤ R.locals) (hRcells : cells + 1 ≤ R.cells) (hRslots : slots + 6 ≤ R.slots) (hlocks : meth.locks = false)
    (hx : ∀ t : State, s.vm.Alike t.vm → H.size ≤ t.heap.size → (∀ q : Nat, q < H.size → t.heap[q]? = H[q]?) → XC cls s t)
    (hf : ∀ z ∈ locs, free z.base) (hc : cells + 1 ≤ mc) (hs : slots + 6 ≤ ms) :
    W p l e R s m args below meth c H locs cells slots (vx_MQ below Qc XC args s mc ms free) (F0 m pc ls rest) := by
  intro T hT X
  have htr : e.platform.stackTraces = false := (show e.platform.stackTraces = l.stackTraces by rw [X.admits.platform]).trans hl
  have Y := vx_rebase X (R' := { frames := R.frames, locals := R.locals, cells := 1, slots := 6 }) (Nat.le_refl _) (Nat.le_refl _) hRcells hRslots
  obtain ⟨s', hA⟩ : ∃ z, z = (T.setVm s.vm).setFrames (.invoking m args :: below) := ⟨_, rfl⟩
  rw [← hA] at Y
  have hvm : s'.vm = s.vm := by rw [hA]; rfl
  have hhp : s'.heap = H := by rw [hA]; exact hT
  have hW0 : s.WarmedH s'.vm := by rw [hvm]; exact State.WarmedH.refl s
  have hat' : ∀ w ∈ vx_atS own ic cls names, w.before args s' = true := fun w hw => vx_ot_at hW0 hvm.symm (hgood w (List.mem_cons_of_mem _ (List.mem_cons_of_mem _ hw))) (hat w hw)
  have hk' : (Cond.classLink own ik cls).before args s' = true := vx_ot_at hW0 hvm.symm (hgood _ List.mem_cons_self) hk
  have hini' : (Cond.initialized cls).before args s' = true := vx_ot_at hW0 hvm.symm (hgood _ (List.mem_cons_of_mem _ List.mem_cons_self)) hini
  have hU' : vx_Zq Bundle.tN "UNASSIGNED_STACK" Bundle.steD A s' s'.heap := by rw [hhp]; exact vx_Zq.moved hW0.alike (hU.kept hS.2.1)
  have hN' : vx_Zq Bundle.tN "SUPPRESSED_SENTINEL" Bundle.listD A s' s'.heap := by rw [hhp]; exact vx_Zq.moved hW0.alike (hN.kept hS.2.1)
  have h : ∀ w ∈ Bundle.ownAtoms own ic cls names, w.before args s' = true := vx_own hat' (vx_isRefq hU'.1) (vx_isRefq hN'.1) hU'.2.word hN'.2.word
  have hown' : s'.vm.findClass own = some m.cls := by rw [hvm]; exact hown
  have hins : (Cond.instantiable cls 6).before args s' = true := h _ (by simp [Bundle.ownAtoms])
  obtain ⟨vm₁, cX, kX, hfX, hkX, -, -, X₁, st1⟩ := Y.newCold hexec (own := own) (C := cls) (index := ik) (n := 6) hown' hk' hins hini'
    (g := F0 m pc ls rest) rfl (by rw [hb]; exact d0) (Nat.le_refl _) (Nat.le_refl _)
  generalize hT1 : (T.setVm vm₁).pushCell { cls := cX, slots := kX.instanceTypes.map defaultValue, vm := .none } = T1 at X₁ st1
  have hcat : (Value.ref T.heap.size).category = 1 := rfl
  have hcellA : T1.heap[T.heap.size]? = some (freshCell cX kX) := by rw [← hT1]; exact State.heap_pushCell_size _ _
  have d3' : decode c.code (pc + 3) = .ok (.dup, 1) := by rw [hb]; exact d3
  have d4' : decode c.code (pc + 4) = .ok (.ldc_w is, 3) := by rw [hb]; exact d4
  have hstr' : vk_R own is text sa s' := vk_R.warm hW0 hstr
  obtain ⟨U, hsteps, hrun, hend, hW, hsame, ce, hce, hO⟩ := X₁.ctorThrowS hexec htr (own := own) (cls := cls) (names := names) (ic := ic) hown' hcls hnames h (fun x hx => nomatch hx) hfX hkX hcellA (by rw [hhp, hT]; exact Nat.le_refl _) (msg := .ref sa) rfl
    (g := { method := m, pc := pc + 7, locals := ls, stack := .ref sa :: .ref T.heap.size :: .ref T.heap.size :: rest, locked := none }) rfl hsize rfl rfl (rest := rest) rfl
    (by rw [hb]; exact d7) (by rw [hb]; exact d10) hout hRframes (by simp only [List.map_cons, List.sum_cons, hcat]; omega) hlocks
  obtain ⟨f1, f2⟩ := vx_frame hsame
  rw [hhp] at f1 f2
  have hWs : s.WarmedH U.vm := State.WarmedH.trans hW0 hW
  have hcl : s.vm.findClass cls = some ce.cls := by
    have h9 := hO.cls
    rw [hvm] at h9
    exact h9
  have hall : s.sameButNew ({ U with vm := s.vm } : State) locs mc ms := by
    subst hA
    obtain ⟨e1, e2⟩ := hsame
    rw [State.setFrames_setFrames] at e1
    have h2 : (T.setVm s.vm).sameButNew ({ U with vm := s.vm } : State) [] (0 + 1) (0 + 6) := ⟨e1, e2⟩
    have h3 := X.same.trans h2
    rw [List.append_nil] at h3
    exact h3.mono hc hs
  refine ⟨U, ?_, .threw T.heap.size, hrun, hend, Or.inr ⟨T.heap.size, rfl, cls, ce, locs, hx U hWs.alike f1 (fun q hq => f2 q hq (fun z hz => nomatch hz)), hce, hO.vm, hcl, hWs, hall, hf⟩⟩
  refine st1 _ ?_
  show Steps p.tables e below (T1.setTop { method := m, pc := pc + 3, locals := ls, stack := .ref T.heap.size :: rest, locked := none }) _
  jvm_step X₁.here [X₁.here.top, hexec, d3', Value.category]
  exact X₁.ldcStringW hexec (own := own) (text := text) (index := is) (a := sa) hown' hstr'.1 hstr'.2
    (g := { method := m, pc := pc + 4, locals := ls, stack := .ref T.heap.size :: .ref T.heap.size :: rest, locked := none }) rfl d4' _ hsteps
end Ends
section Bodies
variable {l : Launch}
theorem vx_ofW {y : MethodName} {ws ws' : List Cond} {rm : Room} {Pc : Array Value → State → Prop} {Qc : Array Value → State → Outcome → State → Prop} {XC : String → State → State → Prop} {mc ms : Nat} {free : Addr → Prop} {cc : ByteArray} {maxL : Nat} {ret : Option FieldType}
    (hy : plainName y.cls = true) (hw : ws = Cond.code y cc maxL ret :: ws')
    (body : ∀ p e s m args below meth c s₁, BodyLoose p l y (headSpec ws rm) cc maxL ret e s m args below meth c s₁ → c.maxLocals = maxL → (∀ x ∈ c.exceptionTable.toList, False) → Pc args s →
      W p l e (headSpec ws rm).room s m args below meth c s.heap [] 0 0 (vx_MQ below Qc XC args s mc ms free) (entryFrame m args maxL)) : vx_Met l y ws rm Pc Qc XC mc ms free := by
  refine MetFree.of_bodyS (code := cc) (maxLocals := maxL) (ret := ret) hy ?_ ?_
  · intro args s m h hn
    obtain ⟨meth, c, h1, h2, h3, h4, h5, h6, -, -⟩ := Cond.code_spec hn (atoms_spec (ws := ws) h _ (by rw [hw]; exact List.mem_cons_self))
    exact ⟨meth, c, h1, h2, h3, h4, h5, h6⟩
  · intro p e s m args below meth c s₁ B hml hP _
    have hh0 : s₁.heap = s.heap := by rw [B.state]; rfl
    have ht : ∀ x ∈ c.exceptionTable.toList, False := by
      obtain ⟨meth9, c9, h1, h2, -, -, -, -, h7, -⟩ := Cond.code_spec B.named (atoms_spec (ws := ws) B.pre _ (by rw [hw]; exact List.mem_cons_self))
      cases Option.some.inj (h1.symm.trans B.method)
      cases Option.some.inj (h2.symm.trans (Stand.of_body B).code)
      intro x hx
      rw [Array.isEmpty_iff.mp h7] at hx
      cases hx
    obtain ⟨t, a1, o, b1, b2, b3⟩ := body p e s m args below meth c s₁ B hml ht hP s₁ hh0 (Stand.of_body B)
    exact ⟨t, o, a1, b1, b2, b3⟩
/-- the table of a body with handlers -/
theorem vx_table {p : Program} {x y : MethodName} {S : Spec} {cc bytes : ByteArray} {maxL maxL' : Nat} {ret ret' : Option FieldType} {e : Env} {s s₁ : State} {m : MethodId} {args : Array Value} {below : List Frame} {meth : Method} {c : Code} {hh : List (Nat × Nat × Nat × Nat)}
    (B : BodyLoose p l y S cc maxL ret e s m args below meth c s₁) (h : (Cond.codeWith y bytes maxL' ret' hh).before args s = true) : c.exceptionTable.toList = tableOf hh := by
  obtain ⟨m9, meth9, c9, hn9, h1, h2, -, -, h6, -⟩ := Cond.codeWith_spec h
  cases Option.some.inj (hn9.symm.trans B.named)
  cases Option.some.inj (h1.symm.trans B.method)
  cases Option.some.inj (h2.symm.trans (Stand.of_body B).code)
  rw [← h6, table_eq]
end Bodies
end VXA
/-! ===== END ===== -/
/-! ===== BEGIN a static call of a method with an exception table ===== -/
section VXS
variable {p : Program} {l : Launch} {e : Env} {R : Room} {s : State} {m : MethodId} {args : Array Value} {below : List Frame} {meth : Method} {c : Code} {T : State} {H : Heap} {locs : List Loc} {cells slots : Nat}
abbrev vx_CSW (R : Room) (s : State) (args : Array Value) (own : String) (index : Nat) (y : MethodName) (bytes : ByteArray) (maxL : Nat) (ret : Option FieldType) (hh : List (Nat × Nat × Nat × Nat)) (ws : List Cond) (rm : Room) (mc ms n : Nat) : Prop :=
  (rm.cells = mc ∧ rm.slots = ms ∧ rm.frames + 1 ≤ R.frames ∧ 8 + (maxL + 11) + rm.locals ≤ R.locals ∧ (∀ w ∈ ws, ∀ (a' : Array Value) (U : State), s.WarmedH U.vm → w.before a' U = true) ∧ Cond.codeWith y bytes maxL ret hh ∈ ws) ∧
  (Cond.codeWith y bytes maxL ret hh).before args s = true ∧ (Cond.initialized y.cls).before args s = true ∧ (y.cls ≠ "java/lang/invoke/MethodHandle" ∧ y.cls ≠ "java/lang/invoke/VarHandle") ∧
  (∀ sig, parseMethodDescriptor y.desc = some sig → n = sig.parameters.length) ∧ (Cond.methodLink own index y).before args s = true ∧ (Cond.static y).before args s = true
theorem vx_cwSW {own : String} {index maxL mc ms : Nat} {y : MethodName} {bytes : ByteArray} {ret : Option FieldType} {hh : List (Nat × Nat × Nat × Nat)} {Ts ws ws' : List Cond} {rm : Room} (n : Nat) (ht : ∀ w ∈ Ts, w.before args s = true) (hT : GoodIn Ts (va_wsS own index y ws)) (hw : ws = Cond.codeWith y bytes maxL ret hh :: ws') (hrc : rm.cells = mc) (hrs : rm.slots = ms)
    (hd : y.cls ≠ "java/lang/invoke/MethodHandle" ∧ y.cls ≠ "java/lang/invoke/VarHandle" ∧ (parseMethodDescriptor y.desc).map (fun d => d.parameters.length) = some n) (hR : rm.frames + 1 ≤ R.frames ∧ 8 + (maxL + 11) + rm.locals ≤ R.locals) :
    vx_CSW R s args own index y bytes maxL ret hh ws rm mc ms n := by
  have ok : ∀ w ∈ va_wsS own index y ws, w.before args s = true := fun w h => ht w (hT w h).1
  have hG : GoodIn Ts ws := fun w h => hT w (by unfold va_wsS; exact List.mem_append_right _ h)
  have hc : Cond.codeWith y bytes maxL ret hh ∈ ws := by rw [hw]; exact List.mem_cons_self
  refine ⟨⟨hrc, hrs, hR.1, hR.2, pay_in ht hG, hc⟩, ht _ (hG _ hc).1, ok _ (by simp [va_wsS]), ⟨hd.1, hd.2.1⟩, fun sig h => ?_, ok _ (by simp [va_wsS]), ok _ (by simp [va_wsS])⟩
  have h2 := hd.2.2
  rw [h] at h2
  exact (Option.some.inj h2).symm
theorem vx_callSW (X : Stand p l e R s m args below meth c T locs cells slots) (hexec : p.tables.exec = Jvm.exec) {own : String} {index : Nat} {y : MethodName} {bytes : ByteArray} {maxL : Nat} {ret : Option FieldType} {hh : List (Nat × Nat × Nat × Nat)}
    (hown : s.vm.findClass own = some m.cls) (hlink : (Cond.methodLink own index y).before args s = true) (hstat : (Cond.static y).before args s = true) (hinit : (Cond.initialized y.cls).before args s = true)
    (hcode : (Cond.codeWith y bytes maxL ret hh).before args s = true) (hy : y.cls ≠ "java/lang/invoke/MethodHandle" ∧ y.cls ≠ "java/lang/invoke/VarHandle")
    {W9 : Nat} {Pre : Pt → Array Value → Prop} {Post : Pt → Array Value → Option Value → Pt → Prop} (hK : Back l R p e below s args y 3 W9 Pre Post)
    {g : JFrame} (hg : g.method = m) (hsize : g.locals.size = c.maxLocals) {argsL rest : List Value} (hlen : ∀ sig, parseMethodDescriptor y.desc = some sig → argsL.length = sig.parameters.length)
    (hstack : g.stack = argsL.reverse ++ rest) (hW : 2 * g.monitorRoom + (rest.map fun v => v.category).sum ≤ W9) (hdg : decode c.code g.pc = .ok (.invokestatic index, 3))
    (hpre : ∀ vm₁, s.WarmedH vm₁ → Pre ⟨T.setVm vm₁, locs, cells, slots⟩ argsL.toArray) :
    ∃ (v : Option Value) (vm₁ : Vm) (B : Pt), s.WarmedH vm₁ ∧ Stand p l e R s m args below meth c B.U B.locs B.cells B.slots ∧ Post ⟨T.setVm vm₁, locs, cells, slots⟩ argsL.toArray v B ∧
      ∀ target, Steps p.tables e below (B.U.setTop { g with pc := g.pc + 3, stack := v.toList ++ rest }) target → Steps p.tables e below (T.setTop g) target := by
  obtain ⟨mk, methM, cM, hnamed, hmethM, -, -, -, -, -, -, hsigM⟩ := Cond.codeWith_spec hcode
  have hstatic : methM.isStatic = true := Cond.static_spec hnamed hmethM hstat
  obtain ⟨kP, hkP, -⟩ := className_of_methodNamed hnamed
  have hinitP : kP.init = .initialized := Cond.initialized_spec (findClass_of_methodNamed hnamed) hkP hinit
  obtain ⟨vm₁, X₁, hstep₁⟩ := X.invokestatic hexec hown hlink hnamed hmethM hstatic hkP hinitP hy (g := g) hg (argsL := argsL) (rest := rest) (hlen _ hsigM) hstack hdg
  obtain ⟨v, B, X', hpost, hsteps⟩ := hK m meth c ⟨T.setVm vm₁, locs, cells, slots⟩ { g with stack := rest } (.invokestatic index) mk argsL.toArray X₁ hg hsize hdg hW (X₁.named hnamed) (hpre vm₁ X₁.warmed)
  exact ⟨v, vm₁, B, X₁.warmed, X', hpost, fun target h => hstep₁ _ fun acts => by rw [doInvoke_state]; exact hsteps.trans h⟩
theorem vx_runSW {y : MethodName} {bytes cc : ByteArray} {maxL nL mc ms n index : Nat} {ret : Option FieldType} {hh : List (Nat × Nat × Nat × Nat)} {ws : List Cond} {rm : Room} {Pc : Array Value → State → Prop} {Qc : Array Value → State → Outcome → State → Prop} {free : Addr → Prop} {Ts : List Cond} {own : String} {As rest : List Value} {g : JFrame}
    (S : CallFix p m c cc nL s args Ts own) (hM : Met l y ws rm Pc Qc mc ms free) (cw : vx_CSW R s args own index y bytes maxL ret hh ws rm mc ms n) (hp : PreS s H Pc As)
    (hg : g.method = m) (hn : As.length = n) (hsize : g.locals.size = nL) (hstack : g.stack = As.reverse ++ rest) (hW : 2 * g.monitorRoom + (rest.map fun v => v.category).sum ≤ 8) (hdg : decode cc g.pc = .ok (.invokestatic index, 3)) (hf : cells + mc ≤ R.cells ∧ slots + ms ≤ R.slots) :
    va_Run p l e R s m args below meth c H locs cells slots mc ms g rest (Qc As.toArray) (free) := by
  obtain ⟨⟨hrc, hrs, hfr, hlo, hws, hcw⟩, hcode, hini, hy, hlen, hl, hstt⟩ := cw
  have hK : Back l R p e below s args y 3 8 (PreOf R mc ms Pc) (PostOf Qc mc ms free) := va_backW (hh := hh) (bytes := bytes) (maxL := maxL) (ret := ret) hM hp.1 hrc hrs hfr hlo hws hcw (fun a' U hW => word_at hW (Or.inl (by first | rfl | simp [Cond.onTables, Cond.keeps, Cond.steady])) hini)
  obtain ⟨hx, hb, hml, ho, -⟩ := S
  intro T hT X
  obtain ⟨v, vm₁, ⟨U', l2, c2, s2⟩, hW₁, X', ⟨g', mk, t, L, e1, e2, hq, h1, hL, h2, h3⟩, st⟩ := vx_callSW X hx (hh := hh) (bytes := bytes) (maxL := maxL) (ret := ret) ho hl hstt hini hcode hy hK hg (hsize.trans hml.symm) (argsL := As) (rest := rest) (fun sig h => hn.trans (hlen sig h)) hstack hW (by rw [hb]; exact hdg)
    (fun vm₁ hW₁ => ⟨hf.1, hf.2, hp.2 (T.setVm vm₁) hT hW₁⟩)
  dsimp only [Pt.U, Pt.locs, Pt.cells, Pt.slots] at X' e1 e2 h1 h2 h3 st
  subst h1; subst h2; subst h3
  exact ⟨v, (T.setVm vm₁).calling g' mk As.toArray, t, U', L, hT, X', hL, e1, e2, hq, st⟩
/-- not caught here, past rows that name other classes: it goes on to the caller -/
theorem vx_outP {p : Program} {l : Launch} {e : Env} {R : Room} {s : State} {m : MethodId} {args : Array Value} {below : List Frame} {meth : Method} {c : Code} {H : Heap} {locs : List Loc} {cells slots : Nat} {free : Addr → Prop} {ls : Array Slot} {rest : List Value} {Qc : Array Value → State → Outcome → State → Prop} {XC : String → State → State → Prop}
    {pc : Nat} {own E : String} {ce : Cell} {q : Addr} {mc ms : Nat} (hown : s.vm.findClass own = some m.cls) (hlocks : meth.locks = false)
    (hpass : ∀ z ∈ c.exceptionTable.toList, covers z pc = false ∨ (z.catchType ≠ 0 ∧ ∃ nm : String, (Cond.classLink own z.catchType nm).before args s = true ∧ va_Nc E nm s)) (hcell : H[q]? = some ce) (hv : ce.vm = .none) (hcl : s.vm.findClass E = some ce.cls)
    (hx : ∀ t : State, t.heap = H → s.vm.Alike t.vm → XC E s t) (hf : ∀ z ∈ locs, free z.base) (hc : cells ≤ mc) (hs : slots ≤ ms) :
    vx_W p l e R s m args below meth c H locs cells slots (vx_MQ below Qc XC args s mc ms free) (F0 m pc ls rest) q := by
  intro T hT X
  have hpl : e.platform.magicAccessors = ({} : Platform).magicAccessors := by rw [X.admits.platform]
  obtain ⟨vm', hW', X', st⟩ := Jvm.Stand.outThrough X hlocks q (g := F0 m pc ls rest) rfl rfl rfl (cell := ce) (by rw [hT]; exact hcell) (by rw [hv]; rfl)
    (by obtain ⟨k9, h9, -⟩ := Vm.findClass_spec hcl; exact ⟨k9, h9⟩) (fun z hz => by
      rcases hpass z hz with h | ⟨hz0, nm, hl1, hn1⟩
      · exact Or.inl h
      · obtain ⟨c6, hc6, hcl6⟩ := Cond.classLink_spec hown hl1 e.platform hpl
        obtain ⟨a8, b8, h1, h2, h3⟩ := hn1
        cases Option.some.inj (h1.symm.trans hcl)
        cases Option.some.inj (h2.symm.trans hc6)
        exact Or.inr ⟨hz0, _, hcl6, h3⟩)
  obtain ⟨g₀, hfr⟩ := X'.frames_eq
  have hcell9 : ((T.setVm vm').setFrames (.throwing q :: below)).heap[q]? = some ce := by
    show T.heap[q]? = some ce
    rw [hT]; exact hcell
  have hend : Ended ((T.setVm vm').setFrames (.throwing q :: below)) below (.threw q) := State.frames_setFrames _ (State.cur_lt_of_frames hfr)
  refine ⟨(T.setVm vm').setFrames (.throwing q :: below), ?_, .threw q, X'.here.running, hend, Or.inr ⟨q, rfl, E, ce, locs, hx _ hT (X'.ends _).1.alike, hcell9, hv, hcl, (X'.ends _).1, (X'.ends _).2.mono hc hs, hf⟩⟩
  rw [X.pushThrowing_eq]
  exact st
/-- a thing of a world lies in the heap -/
theorem vx_lt {D : va_G} {cl : List vw_C} {ws : va_W} {H1 : Heap} (h : va_P D cl ws H1) {k : Nat} {q : Nat × va_E} (hk : ws[k]? = some q) : q.1 < H1.size := (h k q hk).lt
end VXS
/-! ===== END ===== -/
/-! ===== BEGIN methods with a table of their own: called by a name, returning or throwing ===== -/
section VXH
/-! vx_backW, vx_callVX, vx_callSX, vx_callVW, vx_runVW, vx_runVX, vx_runSX, vx_ofWH follow the same proofs as their sisters above (Free/Laws.lean, Shelf42/LK1.lean); vx_outP calls Shelf42/NT130.lean (outThrough). -/
section
variable {l : Launch} {R : Room} {p : Program} {e : Env} {below : List Frame} {s : State} {sargs : Array Value} {y : MethodName} {len W9 : Nat}
theorem vx_backW {ws : List Cond} {rm : Room} {Pc : Array Value → State → Prop} {Qc : Array Value → State → Outcome → State → Prop} {XC : String → State → State → Prop} {mc ms : Nat} {free : Addr → Prop} {bytes : ByteArray} {maxL : Nat} {ret : Option FieldType} {hh : List (Nat × Nat × Nat × Nat)}
    (hM : vx_Met l y ws rm Pc Qc XC mc ms free) (hblind : FrameBlind Pc) (hrc : rm.cells = mc) (hrs : rm.slots = ms)
    (hframes : rm.frames + 1 ≤ R.frames) (hlocals : W9 + (maxL + 11) + rm.locals ≤ R.locals)
    (hws : ∀ w ∈ ws, ∀ a' U, s.WarmedH U.vm → w.before a' U = true) (hcode : Cond.codeWith y bytes maxL ret hh ∈ ws) (hinit : ∀ a' U, s.WarmedH U.vm → (Cond.initialized y.cls).before a' U = true) :
    vx_Back l R p e below s sargs y len W9 (PreOf R mc ms Pc) (PostOf Qc mc ms free) (vx_Post XC mc ms free) := by
  intro m meth c A g ig mk a X hg hsize hdg hW hn hp
  have h1 : (headSpec ws rm).pre.before a A.U = true := atoms_intro fun w hw => hws w hw _ _ X.warmed
  have h2 : (Cond.codeWith y bytes maxL ret hh).before a A.U = true := hws _ hcode _ _ X.warmed
  have h3 : (Cond.initialized y.cls).before a A.U = true := hinit _ _ X.warmed
  have h4 : A.cells + (headSpec ws rm).room.cells ≤ R.cells := by rw [show (headSpec ws rm).room.cells = mc from hrc]; exact hp.1
  have h5 : A.slots + (headSpec ws rm).room.slots ≤ R.slots := by rw [show (headSpec ws rm).room.slots = ms from hrs]; exact hp.2.1
  have hPc : Pc a (A.U.calling g mk a) := hblind _ _ _ _ hp.2.2
  obtain ⟨U, Ls, c0, s0⟩ := A
  dsimp only [Pt.U, Pt.locs, Pt.cells, Pt.slots] at h1 h2 h3 h4 h5 X hn hPc ⊢
  obtain ⟨m9, methY, cY, hn9, hmY, hcY, -, hlY, -⟩ := Cond.codeWith_spec h2
  cases Option.some.inj (hn9.symm.trans hn)
  obtain ⟨kY, hkY, -⟩ := className_of_methodNamed hn
  have hinitY : kY.init = .initialized := Cond.initialized_spec (findClass_of_methodNamed hn) hkY h3
  have h : At U g.method c below := by rw [hg]; exact X.here
  have hlocals9 : W9 + (maxL + 11) + (headSpec ws rm).room.locals ≤ R.locals := hlocals
  have happ : (headSpec ws rm).appliesLoose y e.platform (U.calling g mk a) = true :=
    Spec.appliesLoose_calling (g := g) h hdg hn hkY hinitY
      (X.room_calling (g := g) (R' := (headSpec ws rm).room) hsize hmY hcY hframes (by rw [hlY]; omega) h4 h5) h1
  obtain ⟨mid, hmid⟩ := h.above
  have hfr : (U.setTop g).frames = (.java g :: mid) ++ below := by rw [State.frames_setTop' g h.top, hmid]; rfl
  obtain ⟨o, s₂, hsteps, -, hend, hq⟩ := Steps.callFree hM p X.admits X.cas X.clock (acts := []) hfr happ hPc trivial
  have hq' : vx_Q Qc XC mc ms free a (U.calling g mk a) o s₂ := hq
  rw [State.frames_setTop' g h.top] at hend
  obtain ⟨g₀, hg0⟩ := Option.isSome_iff_exists.mp h.top
  obtain ⟨r, hr⟩ := State.topJava?_eq_some.mp hg0
  have hr' : (({ U with heap := s₂.heap, slotsUsed := s₂.slotsUsed } : State).setVm s₂.vm).frames = .java g₀ :: r := hr
  rcases hq' with ⟨hqc, L, hfe, hL⟩ | ⟨q, rfl, E, ce, L, hx, hce, hcv, hcl, hW₂, hsm, hL⟩
  · obtain ⟨⟨v, rfl⟩, hW₂, e2, q2, q3, q4, q5, q6⟩ := id hfe
    have e3 : s₂ = ({ (U.calling g mk a).setFrames s₂.frames with heap := s₂.heap, slotsUsed := s₂.slotsUsed } : State).setVm s₂.vm := by
      have : s₂ = ({ s₂ with vm := (U.calling g mk a).vm } : State).setVm s₂.vm := rfl
      rw [e2] at this
      exact this
    obtain ⟨c₂, i₂, len₂, hc₂, hd₂, hf₂⟩ := hend
    have hW' : U.WarmedH s₂.vm := hW₂
    have hcc : c₂ = c := by
      have h1 : s₂.code? g.method = U.code? g.method := by
        rw [State.code?_eq, State.code?_eq, hW'.alike.method?]
      exact Option.some.inj (hc₂.symm.trans (h1.trans h.code))
    subst hcc
    have hlen : len₂ = len := by rw [hdg] at hd₂; cases hd₂; rfl
    subst hlen
    have hs₂ : s₂ = (({ U with heap := s₂.heap, slotsUsed := s₂.slotsUsed } : State).setVm s₂.vm).setTop { g with pc := g.pc + len₂, stack := v.toList ++ g.stack } := by
      refine e3.trans ?_
      rw [hf₂, State.calling_eq h.top, State.setFrames_setFrames, State.setTop_of_frames _ hr', hr]
      rfl
    have hsame : U.sameButNew ({ U with heap := s₂.heap, slotsUsed := s₂.slotsUsed } : State) L mc ms := by
      refine ⟨?_, q2, q3, q4, q5, q6⟩
      obtain ⟨t, ht, -⟩ := State.frames_cons hr
      show ({ U with heap := s₂.heap, slotsUsed := s₂.slotsUsed } : State) = { U.setFrames U.frames with heap := s₂.heap, slotsUsed := s₂.slotsUsed }
      rw [State.setFrames_self ht]
    subst hg
    refine Or.inl ⟨v, ⟨(({ U with heap := s₂.heap, slotsUsed := s₂.slotsUsed } : State).setVm s₂.vm), Ls ++ L, c0 + mc, s0 + ms⟩,
      ⟨X.admits, X.cas, X.clock, X.frames, X.room, X.hears, X.method, X.code, (X.here.setHeapUsed s₂.heap s₂.slotsUsed).setVm hW'.alike, X.tail, State.WarmedH.trans X.warmed hW', X.limits, X.bytes, X.same.trans (hsame.setVm s.vm)⟩,
      ⟨g, mk, s₂, L, rfl, rfl, hqc, rfl, hL, rfl, rfl⟩, ?_⟩
    show Steps p.tables e below _ ((({ U with heap := s₂.heap, slotsUsed := s₂.slotsUsed } : State).setVm s₂.vm).setTop { g with pc := g.pc + len₂, stack := v.toList ++ g.stack })
    rw [← hs₂]
    exact hsteps
  · obtain ⟨e2, q2, q3, q4, q5, q6⟩ := id hsm
    have e3 : s₂ = ({ (U.calling g mk a).setFrames s₂.frames with heap := s₂.heap, slotsUsed := s₂.slotsUsed } : State).setVm s₂.vm := by
      have : s₂ = ({ s₂ with vm := (U.calling g mk a).vm } : State).setVm s₂.vm := rfl
      rw [e2] at this
      exact this
    have hf₂ : s₂.frames = .throwing q :: .java g :: U.frames.tail := hend
    have hW' : U.WarmedH s₂.vm := hW₂
    have hs₂ : s₂ = ((({ U with heap := s₂.heap, slotsUsed := s₂.slotsUsed } : State).setVm s₂.vm).setTop g).pushFrame (.throwing q) := by
      refine e3.trans ?_
      rw [hf₂, State.calling_eq h.top, State.setFrames_setFrames, State.pushFrame, State.frames_setTop _ hr', State.setTop_of_frames _ hr', State.setFrames_setFrames, hr]
      rfl
    have hsame : U.sameButNew ({ U with heap := s₂.heap, slotsUsed := s₂.slotsUsed } : State) L mc ms := by
      refine ⟨?_, q2, q3, q4, q5, q6⟩
      obtain ⟨t, ht, -⟩ := State.frames_cons hr
      show ({ U with heap := s₂.heap, slotsUsed := s₂.slotsUsed } : State) = { U.setFrames U.frames with heap := s₂.heap, slotsUsed := s₂.slotsUsed }
      rw [State.setFrames_self ht]
    subst hg
    refine Or.inr ⟨q, ⟨(({ U with heap := s₂.heap, slotsUsed := s₂.slotsUsed } : State).setVm s₂.vm), Ls ++ L, c0 + mc, s0 + ms⟩,
      ⟨X.admits, X.cas, X.clock, X.frames, X.room, X.hears, X.method, X.code, (X.here.setHeapUsed s₂.heap s₂.slotsUsed).setVm hW'.alike, X.tail, State.WarmedH.trans X.warmed hW', X.limits, X.bytes, X.same.trans (hsame.setVm s.vm)⟩,
      ⟨g, mk, s₂, L, E, ce, rfl, rfl, hx, hce, hcv, hcl, rfl, hL, rfl, rfl⟩, ?_⟩
    show Steps p.tables e below _ (((({ U with heap := s₂.heap, slotsUsed := s₂.slotsUsed } : State).setVm s₂.vm).setTop g).pushFrame (.throwing q))
    rw [← hs₂]
    exact hsteps
end
variable {p : Program} {l : Launch} {e : Env} {R : Room} {s : State} {m : MethodId} {args : Array Value} {below : List Frame} {meth : Method} {c : Code} {T : State} {H : Heap} {locs : List Loc} {cells slots : Nat}
theorem vx_callVX (X : Stand p l e R s m args below meth c T locs cells slots) (hexec : p.tables.exec = Jvm.exec) {own C : String} {index : Nat} {y : MethodName} {bytes : ByteArray} {maxL : Nat} {ret : Option FieldType} {hh : List (Nat × Nat × Nat × Nat)}
    (hown : s.vm.findClass own = some m.cls) (hlink : (Cond.methodLink own index y).before args s = true) (hinst : (Cond.instanceMethod y).before args s = true) (hsel : (Cond.selects C y y).before args s = true)
    (hcode : (Cond.codeWith y bytes maxL ret hh).before args s = true) (hy : y.cls ≠ "java/lang/invoke/MethodHandle" ∧ y.cls ≠ "java/lang/invoke/VarHandle")
    {W9 : Nat} {Pre : Pt → Array Value → Prop} {Post : Pt → Array Value → Option Value → Pt → Prop} {PostX : Pt → Array Value → Addr → Pt → Prop} (hK : vx_Back l R p e below s args y 3 W9 Pre Post PostX)
    {b : Addr} {cellB : Cell} (hcell : T.heap[b]? = some cellB) (hobj : cellB.vm.isStatics = false) (hcls : s.vm.findClass C = some cellB.cls)
    {g : JFrame} (hg : g.method = m) (hsize : g.locals.size = c.maxLocals) {argsL rest : List Value} (hlen : ∀ sig, parseMethodDescriptor y.desc = some sig → argsL.length = sig.parameters.length)
    (hstack : g.stack = argsL.reverse ++ .ref b :: rest) (hW : 2 * g.monitorRoom + (rest.map fun v => v.category).sum ≤ W9) (hdg : decode c.code g.pc = .ok (.invokevirtual index, 3))
    (hpre : ∀ vm₁, s.WarmedH vm₁ → Pre ⟨T.setVm vm₁, locs, cells, slots⟩ (Value.ref b :: argsL).toArray) :
    (∃ (v : Option Value) (vm₁ : Vm) (B : Pt), s.WarmedH vm₁ ∧ Stand p l e R s m args below meth c B.U B.locs B.cells B.slots ∧ Post ⟨T.setVm vm₁, locs, cells, slots⟩ (Value.ref b :: argsL).toArray v B ∧
      ∀ target, Steps p.tables e below (B.U.setTop { g with pc := g.pc + 3, stack := v.toList ++ rest }) target → Steps p.tables e below (T.setTop g) target) ∨
    (∃ (q : Addr) (vm₁ : Vm) (B : Pt), s.WarmedH vm₁ ∧ Stand p l e R s m args below meth c B.U B.locs B.cells B.slots ∧ PostX ⟨T.setVm vm₁, locs, cells, slots⟩ (Value.ref b :: argsL).toArray q B ∧
      Steps p.tables e below (T.setTop g) ((B.U.setTop { g with stack := rest }).pushFrame (.throwing q))) := by
  obtain ⟨mk, methM, hnamed, hmethM, hstM, habM⟩ := Cond.instanceMethod_spec hinst
  obtain ⟨m8, methM', cM, hn8, hmethM', -, -, -, -, -, -, hsigM⟩ := Cond.codeWith_spec hcode
  cases Option.some.inj (hn8.symm.trans hnamed)
  cases hmethM.symm.trans hmethM'
  obtain ⟨c2, r2, m2, q1, q2, q3, q4, kP, hkP, hkPi⟩ := Cond.selects_spec hsel
  cases hcls.symm.trans q1
  cases (State.methodFound?_of_named hnamed hy).symm.trans q2
  cases hnamed.symm.trans q3
  have hselP : selectMethod e.platform s.vm cellB.cls mk = .method mk := by rw [Launch.admits_selectMethod X.admits]; exact q4
  obtain ⟨vm₁, X₁, hstep₁⟩ := X.invokevirtual hexec hown hlink hnamed hmethM hstM hkP hkPi hy (a := b) (cell := cellB) hcell
    (fun z h => by rw [h] at hobj; cases hobj) hselP hmethM habM hkP hkPi (g := g) hg (argsL := argsL) (rest := rest) (hlen _ hsigM) hstack hdg
  rcases hK m meth c ⟨T.setVm vm₁, locs, cells, slots⟩ { g with stack := rest } (.invokevirtual index) mk (Value.ref b :: argsL).toArray X₁ hg hsize hdg hW (X₁.named hnamed) (hpre vm₁ X₁.warmed) with ⟨v, B, X', hpost, hsteps⟩ | ⟨q, B, X', hpost, hsteps⟩
  · exact Or.inl ⟨v, vm₁, B, X₁.warmed, X', hpost, fun target h => hstep₁ _ fun acts => by rw [doInvoke_state]; exact hsteps.trans h⟩
  · exact Or.inr ⟨q, vm₁, B, X₁.warmed, X', hpost, hstep₁ _ fun acts => by rw [doInvoke_state]; exact hsteps⟩
theorem vx_callSX (X : Stand p l e R s m args below meth c T locs cells slots) (hexec : p.tables.exec = Jvm.exec) {own : String} {index : Nat} {y : MethodName} {bytes : ByteArray} {maxL : Nat} {ret : Option FieldType} {hh : List (Nat × Nat × Nat × Nat)}
    (hown : s.vm.findClass own = some m.cls) (hlink : (Cond.methodLink own index y).before args s = true) (hstat : (Cond.static y).before args s = true) (hinit : (Cond.initialized y.cls).before args s = true)
    (hcode : (Cond.codeWith y bytes maxL ret hh).before args s = true) (hy : y.cls ≠ "java/lang/invoke/MethodHandle" ∧ y.cls ≠ "java/lang/invoke/VarHandle")
    {W9 : Nat} {Pre : Pt → Array Value → Prop} {Post : Pt → Array Value → Option Value → Pt → Prop} {PostX : Pt → Array Value → Addr → Pt → Prop} (hK : vx_Back l R p e below s args y 3 W9 Pre Post PostX)
    {g : JFrame} (hg : g.method = m) (hsize : g.locals.size = c.maxLocals) {argsL rest : List Value} (hlen : ∀ sig, parseMethodDescriptor y.desc = some sig → argsL.length = sig.parameters.length)
    (hstack : g.stack = argsL.reverse ++ rest) (hW : 2 * g.monitorRoom + (rest.map fun v => v.category).sum ≤ W9) (hdg : decode c.code g.pc = .ok (.invokestatic index, 3))
    (hpre : ∀ vm₁, s.WarmedH vm₁ → Pre ⟨T.setVm vm₁, locs, cells, slots⟩ argsL.toArray) :
    (∃ (v : Option Value) (vm₁ : Vm) (B : Pt), s.WarmedH vm₁ ∧ Stand p l e R s m args below meth c B.U B.locs B.cells B.slots ∧ Post ⟨T.setVm vm₁, locs, cells, slots⟩ argsL.toArray v B ∧
      ∀ target, Steps p.tables e below (B.U.setTop { g with pc := g.pc + 3, stack := v.toList ++ rest }) target → Steps p.tables e below (T.setTop g) target) ∨
    (∃ (q : Addr) (vm₁ : Vm) (B : Pt), s.WarmedH vm₁ ∧ Stand p l e R s m args below meth c B.U B.locs B.cells B.slots ∧ PostX ⟨T.setVm vm₁, locs, cells, slots⟩ argsL.toArray q B ∧
      Steps p.tables e below (T.setTop g) ((B.U.setTop { g with stack := rest }).pushFrame (.throwing q))) := by
  obtain ⟨mk, methM, cM, hnamed, hmethM, -, -, -, -, -, -, hsigM⟩ := Cond.codeWith_spec hcode
  have hstatic : methM.isStatic = true := Cond.static_spec hnamed hmethM hstat
  obtain ⟨kP, hkP, -⟩ := className_of_methodNamed hnamed
  have hinitP : kP.init = .initialized := Cond.initialized_spec (findClass_of_methodNamed hnamed) hkP hinit
  obtain ⟨vm₁, X₁, hstep₁⟩ := X.invokestatic hexec hown hlink hnamed hmethM hstatic hkP hinitP hy (g := g) hg (argsL := argsL) (rest := rest) (hlen _ hsigM) hstack hdg
  rcases hK m meth c ⟨T.setVm vm₁, locs, cells, slots⟩ { g with stack := rest } (.invokestatic index) mk argsL.toArray X₁ hg hsize hdg hW (X₁.named hnamed) (hpre vm₁ X₁.warmed) with ⟨v, B, X', hpost, hsteps⟩ | ⟨q, B, X', hpost, hsteps⟩
  · exact Or.inl ⟨v, vm₁, B, X₁.warmed, X', hpost, fun target h => hstep₁ _ fun acts => by rw [doInvoke_state]; exact hsteps.trans h⟩
  · exact Or.inr ⟨q, vm₁, B, X₁.warmed, X', hpost, hstep₁ _ fun acts => by rw [doInvoke_state]; exact hsteps⟩
theorem vx_callVW (X : Stand p l e R s m args below meth c T locs cells slots) (hexec : p.tables.exec = Jvm.exec) {own C : String} {index : Nat} {y : MethodName} {bytes : ByteArray} {maxL : Nat} {ret : Option FieldType} {hh : List (Nat × Nat × Nat × Nat)}
    (hown : s.vm.findClass own = some m.cls) (hlink : (Cond.methodLink own index y).before args s = true) (hinst : (Cond.instanceMethod y).before args s = true) (hsel : (Cond.selects C y y).before args s = true)
    (hcode : (Cond.codeWith y bytes maxL ret hh).before args s = true) (hy : y.cls ≠ "java/lang/invoke/MethodHandle" ∧ y.cls ≠ "java/lang/invoke/VarHandle")
    {W9 : Nat} {Pre : Pt → Array Value → Prop} {Post : Pt → Array Value → Option Value → Pt → Prop} (hK : Back l R p e below s args y 3 W9 Pre Post)
    {b : Addr} {cellB : Cell} (hcell : T.heap[b]? = some cellB) (hobj : cellB.vm.isStatics = false) (hcls : s.vm.findClass C = some cellB.cls)
    {g : JFrame} (hg : g.method = m) (hsize : g.locals.size = c.maxLocals) {argsL rest : List Value} (hlen : ∀ sig, parseMethodDescriptor y.desc = some sig → argsL.length = sig.parameters.length)
    (hstack : g.stack = argsL.reverse ++ .ref b :: rest) (hW : 2 * g.monitorRoom + (rest.map fun v => v.category).sum ≤ W9) (hdg : decode c.code g.pc = .ok (.invokevirtual index, 3))
    (hpre : ∀ vm₁, s.WarmedH vm₁ → Pre ⟨T.setVm vm₁, locs, cells, slots⟩ (Value.ref b :: argsL).toArray) :
    ∃ (v : Option Value) (vm₁ : Vm) (B : Pt), s.WarmedH vm₁ ∧ Stand p l e R s m args below meth c B.U B.locs B.cells B.slots ∧ Post ⟨T.setVm vm₁, locs, cells, slots⟩ (Value.ref b :: argsL).toArray v B ∧
      ∀ target, Steps p.tables e below (B.U.setTop { g with pc := g.pc + 3, stack := v.toList ++ rest }) target → Steps p.tables e below (T.setTop g) target := by
  obtain ⟨mk, methM, hnamed, hmethM, hstM, habM⟩ := Cond.instanceMethod_spec hinst
  obtain ⟨m8, methM', cM, hn8, hmethM', -, -, -, -, -, -, hsigM⟩ := Cond.codeWith_spec hcode
  cases Option.some.inj (hn8.symm.trans hnamed)
  cases hmethM.symm.trans hmethM'
  obtain ⟨c2, r2, m2, q1, q2, q3, q4, kP, hkP, hkPi⟩ := Cond.selects_spec hsel
  cases hcls.symm.trans q1
  cases (State.methodFound?_of_named hnamed hy).symm.trans q2
  cases hnamed.symm.trans q3
  have hselP : selectMethod e.platform s.vm cellB.cls mk = .method mk := by rw [Launch.admits_selectMethod X.admits]; exact q4
  obtain ⟨vm₁, X₁, hstep₁⟩ := X.invokevirtual hexec hown hlink hnamed hmethM hstM hkP hkPi hy (a := b) (cell := cellB) hcell
    (fun z h => by rw [h] at hobj; cases hobj) hselP hmethM habM hkP hkPi (g := g) hg (argsL := argsL) (rest := rest) (hlen _ hsigM) hstack hdg
  obtain ⟨v, B, X', hpost, hsteps⟩ := hK m meth c ⟨T.setVm vm₁, locs, cells, slots⟩ { g with stack := rest } (.invokevirtual index) mk (Value.ref b :: argsL).toArray X₁ hg hsize hdg hW (X₁.named hnamed) (hpre vm₁ X₁.warmed)
  exact ⟨v, vm₁, B, X₁.warmed, X', hpost, fun target h => hstep₁ _ fun acts => by rw [doInvoke_state]; exact hsteps.trans h⟩
abbrev vx_CVW (R : Room) (s : State) (args : Array Value) (own C : String) (index : Nat) (y : MethodName) (bytes : ByteArray) (maxL : Nat) (ret : Option FieldType) (hh : List (Nat × Nat × Nat × Nat)) (ws : List Cond) (rm : Room) (mc ms n : Nat) : Prop :=
  (rm.cells = mc ∧ rm.slots = ms ∧ rm.frames + 1 ≤ R.frames ∧ 8 + (maxL + 11) + rm.locals ≤ R.locals ∧ (∀ w ∈ ws, ∀ (a' : Array Value) (U : State), s.WarmedH U.vm → w.before a' U = true) ∧ Cond.codeWith y bytes maxL ret hh ∈ ws) ∧
  (Cond.codeWith y bytes maxL ret hh).before args s = true ∧ (Cond.initialized y.cls).before args s = true ∧ (y.cls ≠ "java/lang/invoke/MethodHandle" ∧ y.cls ≠ "java/lang/invoke/VarHandle") ∧
  (∀ sig, parseMethodDescriptor y.desc = some sig → n = sig.parameters.length) ∧ (Cond.methodLink own index y).before args s = true ∧ (Cond.instanceMethod y).before args s = true ∧ (Cond.selects C y y).before args s = true
theorem vx_cwVW {own C : String} {index maxL mc ms : Nat} {y : MethodName} {bytes : ByteArray} {ret : Option FieldType} {hh : List (Nat × Nat × Nat × Nat)} {Ts ws ws' : List Cond} {rm : Room} (n : Nat) (ht : ∀ w ∈ Ts, w.before args s = true) (hT : GoodIn Ts (wsV own index C y ws)) (hw : ws = Cond.codeWith y bytes maxL ret hh :: ws') (hrc : rm.cells = mc) (hrs : rm.slots = ms)
    (hd : y.cls = C ∧ y.cls ≠ "java/lang/invoke/MethodHandle" ∧ y.cls ≠ "java/lang/invoke/VarHandle" ∧ (parseMethodDescriptor y.desc).map (fun d => d.parameters.length) = some n) (hR : rm.frames + 1 ≤ R.frames ∧ 8 + (maxL + 11) + rm.locals ≤ R.locals) :
    vx_CVW R s args own C index y bytes maxL ret hh ws rm mc ms n := by
  obtain ⟨hC, hd⟩ := hd
  subst hC
  have ok : ∀ w ∈ wsV own index y.cls y ws, w.before args s = true := fun w h => ht w (hT w h).1
  have hG : GoodIn Ts ws := fun w h => hT w (by unfold wsV; exact List.mem_append_right _ h)
  have hc : Cond.codeWith y bytes maxL ret hh ∈ ws := by rw [hw]; exact List.mem_cons_self
  refine ⟨⟨hrc, hrs, hR.1, hR.2, pay_in ht hG, hc⟩, ht _ (hG _ hc).1, ok _ (by simp [wsV]), ⟨hd.1, hd.2.1⟩, fun sig h => ?_, ok _ (by simp [wsV]), ok _ (by simp [wsV]), ok _ (by simp [wsV])⟩
  have h2 := hd.2.2
  rw [h] at h2
  exact (Option.some.inj h2).symm
theorem vx_runVW {y : MethodName} {bytes cc : ByteArray} {maxL nL mc ms n index : Nat} {ret : Option FieldType} {hh : List (Nat × Nat × Nat × Nat)} {ws : List Cond} {rm : Room} {Pc : Array Value → State → Prop} {Qc : Array Value → State → Outcome → State → Prop} {free : Addr → Prop} {Ts : List Cond} {own C : String} {b : Addr} {As rest : List Value} {g : JFrame}
    (S : CallFix p m c cc nL s args Ts own) (hM : Met l y ws rm Pc Qc mc ms free) (cw : vx_CVW R s args own C index y bytes maxL ret hh ws rm mc ms n) (hp : PreV s H C b Pc As)
    (hg : g.method = m) (hn : As.length = n) (hsize : g.locals.size = nL) (hstack : g.stack = As.reverse ++ .ref b :: rest) (hW : 2 * g.monitorRoom + (rest.map fun v => v.category).sum ≤ 8) (hdg : decode cc g.pc = .ok (.invokevirtual index, 3)) (hf : cells + mc ≤ R.cells ∧ slots + ms ≤ R.slots) :
    va_Run p l e R s m args below meth c H locs cells slots mc ms g rest (Qc (Value.ref b :: As).toArray) free := by
  obtain ⟨⟨hrc, hrs, hfr, hlo, hws, hcw⟩, hcode, hini, hy, hlen, hl, hin, hse⟩ := cw
  have hK : Back l R p e below s args y 3 8 (PreOf R mc ms Pc) (PostOf Qc mc ms free) := va_backW (hh := hh) (bytes := bytes) (maxL := maxL) (ret := ret) hM hp.1 hrc hrs hfr hlo hws hcw (fun a' U hW => word_at hW (Or.inl (by first | rfl | simp [Cond.onTables, Cond.keeps, Cond.steady])) hini)
  obtain ⟨hx, hb, hml, ho, -⟩ := S
  obtain ⟨-, ⟨cellB, hcB, hoB, hclB⟩, hPc⟩ := hp
  intro T hT X
  obtain ⟨v, vm₁, ⟨U', l2, c2, s2⟩, hW₁, X', ⟨g', mk, t, L, e1, e2, hq, h1, hL, h2, h3⟩, st⟩ := vx_callVW X hx (C := C) (hh := hh) (bytes := bytes) (maxL := maxL) (ret := ret) ho hl hin hse hcode hy hK (by rw [hT]; exact hcB) hoB hclB hg (hsize.trans hml.symm) (argsL := As) (rest := rest) (fun sig h => hn.trans (hlen sig h)) hstack hW (by rw [hb]; exact hdg)
    (fun vm₁ hW₁ => ⟨hf.1, hf.2, hPc (T.setVm vm₁) hT hW₁⟩)
  dsimp only [Pt.U, Pt.locs, Pt.cells, Pt.slots] at X' e1 e2 h1 h2 h3 st
  subst h1; subst h2; subst h3
  exact ⟨v, (T.setVm vm₁).calling g' mk (Value.ref b :: As).toArray, t, U', L, hT, X', hL, e1, e2, hq, st⟩
section
variable {y : MethodName} {bytes cc : ByteArray} {maxL nL mc ms n index : Nat} {ret : Option FieldType} {ws : List Cond} {rm : Room} {Pc : Array Value → State → Prop} {Qc : Array Value → State → Outcome → State → Prop} {XC : String → State → State → Prop} {free : Addr → Prop} {Ts : List Cond} {own C : String} {b : Addr} {As rest : List Value} {g : JFrame}
theorem vx_runVX {hh : List (Nat × Nat × Nat × Nat)} (S : CallFix p m c cc nL s args Ts own) (hM : vx_Met l y ws rm Pc Qc XC mc ms free) (cw : vx_CVW R s args own C index y bytes maxL ret hh ws rm mc ms n) (hp : PreV s H C b Pc As)
    (hg : g.method = m) (hn : As.length = n) (hsize : g.locals.size = nL) (hstack : g.stack = As.reverse ++ .ref b :: rest) (hW : 2 * g.monitorRoom + (rest.map fun v => v.category).sum ≤ 8) (hdg : decode cc g.pc = .ok (.invokevirtual index, 3)) (hf : cells + mc ≤ R.cells ∧ slots + ms ≤ R.slots) :
    vx_Run p l e R s m args below meth c H locs cells slots mc ms g rest (Qc (Value.ref b :: As).toArray) XC free := by
  obtain ⟨⟨hrc, hrs, hfr, hlo, hws, hcw⟩, hcode, hini, hy, hlen, hl, hin, hse⟩ := cw
  have hK : vx_Back l R p e below s args y 3 8 (PreOf R mc ms Pc) (PostOf Qc mc ms free) (vx_Post XC mc ms free) := vx_backW (hh := hh) (bytes := bytes) (maxL := maxL) (ret := ret) hM hp.1 hrc hrs hfr hlo hws hcw (fun a' U hW => word_at hW (Or.inl (by first | rfl | simp [Cond.onTables, Cond.keeps, Cond.steady])) hini)
  obtain ⟨hx, hb, hml, ho, -⟩ := S
  obtain ⟨-, ⟨cellB, hcB, hoB, hclB⟩, hPc⟩ := hp
  intro T hT X
  rcases vx_callVX X hx (C := C) (hh := hh) (bytes := bytes) (maxL := maxL) (ret := ret) ho hl hin hse hcode hy hK (by rw [hT]; exact hcB) hoB hclB hg (hsize.trans hml.symm) (argsL := As) (rest := rest) (fun sig h => hn.trans (hlen sig h)) hstack hW (by rw [hb]; exact hdg)
    (fun vm₁ hW₁ => ⟨hf.1, hf.2, hPc (T.setVm vm₁) hT hW₁⟩) with ⟨v, vm₁, ⟨U', l2, c2, s2⟩, hW₁, X', ⟨g', mk, t, L, e1, e2, hq, h1, hL, h2, h3⟩, st⟩ | ⟨q, vm₁, ⟨U', l2, c2, s2⟩, hW₁, X', ⟨g', mk, t, L, E, ce, e1, e2, hq, hce, hcv, hcl, h1, hL, h2, h3⟩, st⟩
  · dsimp only [Pt.U, Pt.locs, Pt.cells, Pt.slots] at X' e1 e2 h1 h2 h3 st
    subst h1; subst h2; subst h3
    exact Or.inl ⟨v, (T.setVm vm₁).calling g' mk (Value.ref b :: As).toArray, t, U', L, hT, X', hL, e1, e2, hq, st⟩
  · dsimp only [Pt.U, Pt.locs, Pt.cells, Pt.slots] at X' e1 e2 h1 h2 h3 st hcl
    subst h1; subst h2; subst h3
    exact Or.inr ⟨q, (T.setVm vm₁).calling g' mk (Value.ref b :: As).toArray, t, U', L, E, ce, hT, X', hL, e1, e2, hq, hce, hcv, vx_cls hW₁ hcl, st⟩
theorem vx_runSX {hh : List (Nat × Nat × Nat × Nat)} (S : CallFix p m c cc nL s args Ts own) (hM : vx_Met l y ws rm Pc Qc XC mc ms free) (cw : vx_CSW R s args own index y bytes maxL ret hh ws rm mc ms n) (hp : PreS s H Pc As)
    (hg : g.method = m) (hn : As.length = n) (hsize : g.locals.size = nL) (hstack : g.stack = As.reverse ++ rest) (hW : 2 * g.monitorRoom + (rest.map fun v => v.category).sum ≤ 8) (hdg : decode cc g.pc = .ok (.invokestatic index, 3)) (hf : cells + mc ≤ R.cells ∧ slots + ms ≤ R.slots) :
    vx_Run p l e R s m args below meth c H locs cells slots mc ms g rest (Qc As.toArray) XC free := by
  obtain ⟨⟨hrc, hrs, hfr, hlo, hws, hcw⟩, hcode, hini, hy, hlen, hl, hstt⟩ := cw
  have hK : vx_Back l R p e below s args y 3 8 (PreOf R mc ms Pc) (PostOf Qc mc ms free) (vx_Post XC mc ms free) := vx_backW (hh := hh) (bytes := bytes) (maxL := maxL) (ret := ret) hM hp.1 hrc hrs hfr hlo hws hcw (fun a' U hW => word_at hW (Or.inl (by first | rfl | simp [Cond.onTables, Cond.keeps, Cond.steady])) hini)
  obtain ⟨hx, hb, hml, ho, -⟩ := S
  intro T hT X
  rcases vx_callSX X hx (hh := hh) (bytes := bytes) (maxL := maxL) (ret := ret) ho hl hstt hini hcode hy hK hg (hsize.trans hml.symm) (argsL := As) (rest := rest) (fun sig h => hn.trans (hlen sig h)) hstack hW (by rw [hb]; exact hdg)
    (fun vm₁ hW₁ => ⟨hf.1, hf.2, hp.2 (T.setVm vm₁) hT hW₁⟩) with ⟨v, vm₁, ⟨U', l2, c2, s2⟩, hW₁, X', ⟨g', mk, t, L, e1, e2, hq, h1, hL, h2, h3⟩, st⟩ | ⟨q, vm₁, ⟨U', l2, c2, s2⟩, hW₁, X', ⟨g', mk, t, L, E, ce, e1, e2, hq, hce, hcv, hcl, h1, hL, h2, h3⟩, st⟩
  · dsimp only [Pt.U, Pt.locs, Pt.cells, Pt.slots] at X' e1 e2 h1 h2 h3 st
    subst h1; subst h2; subst h3
    exact Or.inl ⟨v, (T.setVm vm₁).calling g' mk As.toArray, t, U', L, hT, X', hL, e1, e2, hq, st⟩
  · dsimp only [Pt.U, Pt.locs, Pt.cells, Pt.slots] at X' e1 e2 h1 h2 h3 st hcl
    subst h1; subst h2; subst h3
    exact Or.inr ⟨q, (T.setVm vm₁).calling g' mk As.toArray, t, U', L, E, ce, hT, X', hL, e1, e2, hq, hce, hcv, vx_cls hW₁ hcl, st⟩
end
end VXH
theorem vx_ofWH {l : Launch} {y : MethodName} {ws ws' : List Cond} {rm : Room} {Pc : Array Value → State → Prop} {Qc : Array Value → State → Outcome → State → Prop} {XC : String → State → State → Prop} {mc ms : Nat} {free : Addr → Prop} {cc : ByteArray} {maxL : Nat} {ret : Option FieldType} {hh : List (Nat × Nat × Nat × Nat)}
    (hy : plainName y.cls = true) (hw : ws = Cond.codeWith y cc maxL ret hh :: ws')
    (body : ∀ p e s m args below meth c s₁, BodyLoose p l y (headSpec ws rm) cc maxL ret e s m args below meth c s₁ → c.maxLocals = maxL → Pc args s →
      W p l e (headSpec ws rm).room s m args below meth c s.heap [] 0 0 (vx_MQ below Qc XC args s mc ms free) (entryFrame m args maxL)) : vx_Met l y ws rm Pc Qc XC mc ms free := by
  refine MetFree.of_bodyS (code := cc) (maxLocals := maxL) (ret := ret) hy ?_ ?_
  · intro args s m h hn
    obtain ⟨m9, meth, c, hn9, h1, h2, h3, h4, -, h5, h6, -⟩ := Cond.codeWith_spec (atoms_spec (ws := ws) h _ (by rw [hw]; exact List.mem_cons_self))
    cases hn.symm.trans hn9
    exact ⟨meth, c, h1, h2, h3, h4, h5, h6⟩
  · intro p e s m args below meth c s₁ B hml hP _
    have hh0 : s₁.heap = s.heap := by rw [B.state]; rfl
    obtain ⟨t, a1, o, b1, b2, b3⟩ := body p e s m args below meth c s₁ B hml hP s₁ hh0 (Stand.of_body B)
    exact ⟨t, o, a1, b1, b2, b3⟩
/-! ===== END ===== -/
end
section
/-! the abstract machine: a store of fixed cells, shallow instructions, runs -/
/-- an int, a long that comes of an int, a reference (family, instance; null below 0) -/
abbrev am_v : Type := Int32 ⊕ (Int32 ⊕ (Nat × Int32))
/-- the store: family, instance, slot -/
abbrev am_S : Type := Nat → Nat → Nat → Int32
abbrev am_F : Type := Nat × (List (Option am_v) × (List am_v × am_S))
abbrev am_O : Type := Option am_v ⊕ Nat
abbrev am_R : Type := Option (am_O × am_S)
abbrev am_I : Type := am_F → (am_F → am_R) → am_R
abbrev am_C : Type := List am_v → am_S → am_R
def am_up (g : am_S) (f i j : Nat) (v : Int32) : am_S := fun f' i' j' => if f' = f ∧ i' = i ∧ j' = j then v else g f' i' j'
/-- families: address of an instance, how many, and back -/
def am_ad (f i : Nat) : Nat := if f < 5 then f else if f < 7 then f + 2 * i else if f < 19 then f + 254 else if f < 24 then f + 254 + 5 * i else f + 289
def am_ct (f : Nat) : Nat := match f with
  | 5 => 128 | 6 => 128 | 19 => 8 | 20 => 8 | 21 => 8 | 22 => 8 | 23 => 8 | _ => 1
def am_de (k : Nat) : Nat × Nat := if k < 5 then (k, 0) else if k < 261 then (5 + (k - 5) % 2, (k - 5) / 2) else if k < 273 then (k - 254, 0) else if k < 313 then (19 + (k - 273) % 5, (k - 273) / 5) else (k - 289, 0)
theorem am_ct_le (f : Nat) : am_ct f ≤ 128 := by unfold am_ct; split <;> omega
theorem am_ct_19 {f : Nat} (h1 : 19 ≤ f) (h2 : f < 24) : am_ct f = 8 := by
  have : f = 19 ∨ f = 20 ∨ f = 21 ∨ f = 22 ∨ f = 23 := by omega
  rcases this with rfl | rfl | rfl | rfl | rfl <;> rfl
theorem am_ct_5 {f : Nat} (h1 : 5 ≤ f) (h2 : f < 7) : am_ct f = 128 := by
  have : f = 5 ∨ f = 6 := by omega
  rcases this with rfl | rfl <;> rfl
theorem am_ct_1 {f : Nat} (h : f < 5 ∨ (7 ≤ f ∧ f < 19) ∨ 24 ≤ f) : am_ct f = 1 := by
  unfold am_ct
  split <;> first | rfl | omega
theorem am_de_ad {f i : Nat} (hf : f < 46) (hi : i < am_ct f) : am_de (am_ad f i) = (f, i) ∧ am_ad f i < 335 := by
  by_cases h1 : f < 5
  · rw [am_ct_1 (Or.inl h1)] at hi
    have hi0 : i = 0 := by omega
    subst hi0
    unfold am_ad am_de
    rw [if_pos h1, if_pos h1]
    exact ⟨rfl, by omega⟩
  · by_cases h2 : f < 7
    · rw [am_ct_5 (by omega) h2] at hi
      unfold am_ad am_de
      rw [if_neg h1, if_pos h2, if_neg (by omega), if_pos (by omega)]
      refine ⟨?_, by omega⟩
      rw [Prod.mk.injEq]; constructor <;> omega
    · by_cases h3 : f < 19
      · rw [am_ct_1 (Or.inr (Or.inl ⟨by omega, h3⟩))] at hi
        have hi0 : i = 0 := by omega
        subst hi0
        unfold am_ad am_de
        rw [if_neg h1, if_neg h2, if_pos h3, if_neg (by omega), if_neg (by omega), if_pos (by omega)]
        exact ⟨by rw [Prod.mk.injEq]; exact ⟨by omega, rfl⟩, by omega⟩
      · by_cases h4 : f < 24
        · rw [am_ct_19 (by omega) h4] at hi
          unfold am_ad am_de
          rw [if_neg h1, if_neg h2, if_neg h3, if_pos h4, if_neg (by omega), if_neg (by omega), if_neg (by omega), if_pos (by omega)]
          refine ⟨?_, by omega⟩
          rw [Prod.mk.injEq]; constructor <;> omega
        · rw [am_ct_1 (Or.inr (Or.inr (by omega)))] at hi
          have hi0 : i = 0 := by omega
          subst hi0
          unfold am_ad am_de
          rw [if_neg h1, if_neg h2, if_neg h3, if_neg h4, if_neg (by omega), if_neg (by omega), if_neg (by omega), if_neg (by omega)]
          exact ⟨by rw [Prod.mk.injEq]; exact ⟨by omega, rfl⟩, by omega⟩
theorem am_ad_de {k : Nat} (h : k < 335) : am_ad (am_de k).1 (am_de k).2 = k ∧ (am_de k).1 < 46 ∧ (am_de k).2 < am_ct (am_de k).1 := by
  by_cases h1 : k < 5
  · have e : am_de k = (k, 0) := by unfold am_de; rw [if_pos h1]
    rw [e]
    refine ⟨by unfold am_ad; rw [if_pos h1], by omega, by rw [am_ct_1 (Or.inl h1)]; omega⟩
  · by_cases h2 : k < 261
    · have e : am_de k = (5 + (k - 5) % 2, (k - 5) / 2) := by unfold am_de; rw [if_neg h1, if_pos h2]
      rw [e]
      refine ⟨?_, by omega, ?_⟩
      · unfold am_ad
        dsimp only
        rw [if_neg (by omega), if_pos (by omega)]
        omega
      · dsimp only
        rw [am_ct_5 (by omega) (by omega)]
        omega
    · by_cases h3 : k < 273
      · have e : am_de k = (k - 254, 0) := by unfold am_de; rw [if_neg h1, if_neg h2, if_pos h3]
        rw [e]
        refine ⟨?_, by omega, ?_⟩
        · unfold am_ad
          dsimp only
          rw [if_neg (by omega), if_neg (by omega), if_pos (by omega)]
          omega
        · dsimp only
          rw [am_ct_1 (Or.inr (Or.inl ⟨by omega, by omega⟩))]
          omega
      · by_cases h4 : k < 313
        · have e : am_de k = (19 + (k - 273) % 5, (k - 273) / 5) := by unfold am_de; rw [if_neg h1, if_neg h2, if_neg h3, if_pos h4]
          rw [e]
          refine ⟨?_, by omega, ?_⟩
          · unfold am_ad
            dsimp only
            rw [if_neg (by omega), if_neg (by omega), if_neg (by omega), if_pos (by omega)]
            omega
          · dsimp only
            rw [am_ct_19 (by omega) (by omega)]
            omega
        · have e : am_de k = (k - 289, 0) := by unfold am_de; rw [if_neg h1, if_neg h2, if_neg h3, if_neg h4]
          rw [e]
          refine ⟨?_, by omega, ?_⟩
          · unfold am_ad
            dsimp only
            rw [if_neg (by omega), if_neg (by omega), if_neg (by omega), if_neg (by omega)]
            omega
          · dsimp only
            rw [am_ct_1 (Or.inr (Or.inr (by omega)))]
            omega
/-- what a family is: 0 an object, 1 int[], 2 boolean[], 3 Sheet[] that is written, 4 an array of references that never change, 6 long[] -/
def am_ak (f : Nat) : Nat := match f with
  | 0 => 0 | 1 => 4 | 2 => 0 | 3 => 4 | 4 => 3 | 5 => 0 | 6 => 1 | 7 => 0 | 8 => 3 | 9 => 2 | 10 => 2 | 11 => 0 | 12 => 2 | 13 => 1 | 14 => 0 | 15 => 1 | 16 => 2 | 17 => 2 | 18 => 1 | 19 => 0 | 20 => 1 | 21 => 1 | 22 => 1 | 23 => 3 | 24 => 0
  | 25 => 2 | 26 => 2 | 27 => 1 | 28 => 1 | 29 => 1 | 30 => 1 | 31 => 1 | 32 => 1 | 33 => 1 | 34 => 1 | 35 => 1 | 36 => 1 | 37 => 2 | 38 => 1 | 39 => 2 | 40 => 2 | 41 => 1 | 42 => 2 | 43 => 2 | 44 => 2 | 45 => 6 | _ => 7
/-- an array's length -/
def am_ln (f : Nat) : Nat := match f with
  | 1 => 8 | 3 => 128 | 4 => 128 | 6 => 8 | 8 => 10 | 9 => 10 | 10 => 10 | 12 => 64 | 13 => 64 | 15 => 24 | 16 => 24 | 17 => 24 | 18 => 24 | 20 => 4 | 21 => 3 | 22 => 16 | 23 => 16
  | 25 => 8 | 26 => 8 | 27 => 8 | 28 => 8 | 29 => 32 | 30 => 24 | 31 => 128 | 32 => 128 | 33 => 130 | 34 => 130 | 35 => 130 | 36 => 1040 | 37 => 130 | 38 => 10 | 39 => 10 | 40 => 10 | 41 => 24 | 42 => 24 | 43 => 24 | 44 => 24 | 45 => 1 | _ => 0
/-- the array's class, as a place in am_ty; the family that the references of a Sheet[] or Task[] lead to -/
def am_ay (f : Nat) : Nat := match f with
  | 1 => 3 | 3 => 2 | _ => match am_ak f with
    | 1 => 0 | 2 => 1 | 3 => 2 | 6 => 4 | _ => 2
def am_af (f : Nat) : Nat := match f with
  | 1 => 19 | _ => 5
/-- an object's class, as a place in vwCl, and how many fields -/
def am_cl (f : Nat) : Nat := match f with
  | 0 => 6 | 2 => 4 | 5 => 3 | 7 => 2 | 11 => 0 | 14 => 1 | 19 => 5 | 24 => 7 | _ => 99
def am_nf (f : Nat) : Nat := match f with
  | 0 => 5 | 2 => 3 | 5 => 8 | 7 => 4 | 11 => 3 | 14 => 4 | 19 => 8 | 24 => 22 | _ => 0
/-- a field: 0 an int or boolean, else 1 + the family that it leads to (same instance), for good -/
def am_sk (f j : Nat) : Nat := match f with
  | 0 => match j with | 0 => 2 | 1 => 3 | 2 => 8 | 3 => 12 | 4 => 15 | _ => 0
  | 2 => match j with | 0 => 4 | 1 => 5 | _ => 0
  | 5 => match j with | 0 => 7 | _ => 0
  | 7 => match j with | 0 => 9 | 1 => 10 | 2 => 11 | _ => 0
  | 11 => match j with | 0 => 13 | 1 => 14 | _ => 0
  | 14 => match j with | 0 => 16 | 1 => 17 | 2 => 18 | 3 => 19 | _ => 0
  | 19 => match j with | 0 => 21 | 1 => 22 | 2 => 23 | 3 => 24 | _ => 0
  | 24 => match j with | 0 => 0 | 1 => 26 | 2 => 27 | 3 => 28 | 4 => 29 | 5 => 30 | 6 => 31 | 7 => 32 | 8 => 33 | 9 => 34 | 10 => 35 | 11 => 36 | 12 => 37 | 13 => 38 | 14 => 39 | 15 => 40 | 16 => 41 | 17 => 0 | 18 => 42 | 19 => 43 | 20 => 44 | 21 => 45 | _ => 0
  | _ => 0
def am_rO (o f : Nat) (x : Int32) : Option Nat := if x < 0 then none else some (o + am_ad f x.toNatClampNeg)
/-- a reference's place: families of one instance don't look at it -/
def am_ix (f : Nat) (x : Int32) : Nat := match Nat.beq (am_ct f) 1 with
  | true => 0
  | false => x.toNatClampNeg
def am_rf (o f : Nat) (x : Int32) : Option Nat := match Nat.beq (am_ct f) 1 with
  | true => some (o + am_ad f 0)
  | false => am_rO o f x
def am_cv (o : Nat) (v : am_v) : Value := match v with
  | .inl x => .int x
  | .inr (.inl x) => .long x.toInt64
  | .inr (.inr q) => va_rf (am_rf o q.1 q.2)
def am_sv (o : Nat) (g : am_S) (f i j : Nat) : Value := match am_sk f j with
  | 0 => .int (g f i j)
  | n + 1 => .ref (o + am_ad n i)
def am_row (o : Nat) (g : am_S) (f i : Nat) : (Nat → Int32) ⊕ (Nat → Int64) ⊕ (Nat → UInt32) ⊕ (Nat → UInt64) ⊕ (Nat → Option Nat) := match am_ak f with
  | 3 => .inr (.inr (.inr (.inr (fun j => am_rO o 5 (g f i j)))))
  | 4 => .inr (.inr (.inr (.inr (fun j => some (o + am_ad (am_af f) j)))))
  | 6 => .inr (.inl (fun j => (g f i j).toInt64))
  | _ => .inl (fun j => g f i j)
def am_ce (o : Nat) (cy : Nat → ClassId) (g : am_S) (f i : Nat) : va_E := match am_ak f with
  | 0 => .inr (am_cl f, (List.range (am_nf f)).map (am_sv o g f i))
  | _ => .inl (cy (am_ay f), am_ln f, am_row o g f i)
def am_wl (o : Nat) (cy : Nat → ClassId) (g : am_S) : va_W := (List.range 335).map (fun k => (o + k, am_ce o cy g (am_de k).1 (am_de k).2))
theorem am_wl_at {o : Nat} {cy : Nat → ClassId} {g : am_S} {k : Nat} (h : k < 335) : (am_wl o cy g)[k]? = some (o + k, am_ce o cy g (am_de k).1 (am_de k).2) := by
  simp [am_wl, h]
theorem am_wl_get {o : Nat} {cy : Nat → ClassId} {g : am_S} {f i : Nat} (hf : f < 46) (hi : i < am_ct f) : (am_wl o cy g)[am_ad f i]? = some (o + am_ad f i, am_ce o cy g f i) := by
  obtain ⟨h1, h2⟩ := am_de_ad hf hi
  rw [am_wl_at h2, h1]
theorem am_wl_lt {o : Nat} {cy : Nat → ClassId} {g : am_S} {k : Nat} {q : Nat × va_E} (h : (am_wl o cy g)[k]? = some q) : k < 335 ∧ q.1 = o + k := by
  have hk : k < 335 := by
    have := (List.getElem?_eq_some_iff.mp h).1
    simpa [am_wl] using this
  rw [am_wl_at hk] at h
  cases h
  exact ⟨hk, rfl⟩
def am_A (o : Nat) : Nat → Prop := fun q => o ≤ q
theorem am_wl_D (o : Nat) (cy : Nat → ClassId) (g : am_S) : va_D (am_A o) (am_wl o cy g) := by
  refine ⟨fun i j p q hp hq he => ?_, fun k q h => ?_⟩
  · have a := am_wl_lt hp
    have b := am_wl_lt hq
    omega
  · have a := am_wl_lt h
    show o ≤ q.1
    omega
theorem am_wl_set {o : Nat} {cy : Nat → ClassId} {g g' : am_S} {f i : Nat} (hf : f < 46) (hi : i < am_ct f) {e : va_E} (he : e = am_ce o cy g' f i) (ho : ∀ f' i', ¬ (f' = f ∧ i' = i) → am_ce o cy g' f' i' = am_ce o cy g f' i') :
    (am_wl o cy g).set (am_ad f i) (o + am_ad f i, e) = am_wl o cy g' := by
  obtain ⟨h1, h2⟩ := am_de_ad hf hi
  apply List.ext_getElem?
  intro k
  by_cases hk : k = am_ad f i
  · subst hk
    rw [List.getElem?_set_self (by simpa [am_wl] using h2), am_wl_at h2, h1, he]
  · rw [List.getElem?_set_ne (Ne.symm hk)]
    by_cases h3 : k < 335
    · rw [am_wl_at h3, am_wl_at h3, ho]
      rintro ⟨e1, e2⟩
      exact hk (by rw [← (am_ad_de h3).1, e1, e2])
    · simp [am_wl, h3]
theorem am_ce_off {o : Nat} {cy : Nat → ClassId} {g : am_S} {f i j : Nat} {v : Int32} {f' i' : Nat} (h : ¬ (f' = f ∧ i' = i)) : am_ce o cy (am_up g f i j v) f' i' = am_ce o cy g f' i' := by
  have e : ∀ j', am_up g f i j v f' i' j' = g f' i' j' := fun j' => by
    unfold am_up
    rw [if_neg (fun q => h ⟨q.1, q.2.1⟩)]
  have e1 : am_sv o (am_up g f i j v) f' i' = am_sv o g f' i' := by
    funext j'
    unfold am_sv
    rw [e]
  have e2 : am_row o (am_up g f i j v) f' i' = am_row o g f' i' := by
    unfold am_row
    simp only [e]
  unfold am_ce
  rw [e1, e2]
theorem am_up_at (g : am_S) (f i j : Nat) (v : Int32) : am_up g f i j v f i j = v := by simp [am_up]
theorem am_up_j {g : am_S} {f i j j' : Nat} {v : Int32} (h : j' ≠ j) : am_up g f i j v f i j' = g f i j' := by simp [am_up, h]
/-- guards -/
def am_g (b : Bool) (r : am_R) : am_R := match b with
  | true => r
  | false => none
def am_in (x : Int32) (n : Nat) : Bool := decide (¬ x < 0) && decide (x.toNatClampNeg < n)
def am_gr (f : Nat) (x : Int32) (r : am_R) : am_R := match Nat.beq (am_ct f) 1 with
  | true => r
  | false => am_g (am_in x (am_ct f)) r
theorem am_g_some {b : Bool} {r : am_R} {z : am_O × am_S} (h : am_g b r = some z) : b = true ∧ r = some z := by
  cases b
  · cases h
  · exact ⟨rfl, h⟩
theorem am_in_iff {x : Int32} {n : Nat} : am_in x n = true ↔ vp_in x n := by
  unfold am_in vp_in
  simp only [Bool.and_eq_true, decide_eq_true_eq]
  exact ⟨fun h q => q.elim h.1 (fun z => Nat.not_lt.mpr z h.2), fun h => ⟨fun q => h (Or.inl q), Nat.not_le.mp (fun q => h (Or.inr q))⟩⟩
theorem am_gr_some {o f : Nat} {x : Int32} {r : am_R} {z : am_O × am_S} (h : am_gr f x r = some z) : r = some z ∧ am_ix f x < am_ct f ∧ am_rf o f x = some (o + am_ad f (am_ix f x)) := by
  unfold am_gr at h
  unfold am_ix am_rf
  cases hb : Nat.beq (am_ct f) 1 with
  | true =>
    rw [hb] at h
    exact ⟨h, by have := Nat.eq_of_beq_eq_true hb; simp only [this]; omega, rfl⟩
  | false =>
    rw [hb] at h
    obtain ⟨h1, h2⟩ := am_g_some h
    have h3 := am_in_iff.mp h1
    unfold vp_in at h3
    have h4 : ¬ x < 0 := fun q => h3 (Or.inl q)
    exact ⟨h2, Nat.not_le.mp (fun q => h3 (Or.inr q)), by unfold am_rO; rw [if_neg h4]⟩
/-- lookups and runs -/
def am_lk (pc : Nat) : List (Nat × am_I) → Option am_I
  | [] => none
  | q :: r => match Nat.beq pc q.1 with
    | true => some q.2
    | false => am_lk pc r
def am_run (T : List (Nat × am_I)) : Nat → am_F → am_R
  | 0, _ => none
  | n + 1, fr => match am_lk fr.1 T with
    | some f => f fr (am_run T n)
    | none => none
/-- for one state an instruction either ends, or goes on once -/
def am_lin (f : am_I) : Prop := ∀ fr, (∃ r, ∀ k, f fr k = r) ∨ (∃ fr', ∀ k, f fr k = k fr')
def am_linT (T : List (Nat × am_I)) : Prop := ∀ q ∈ T, am_lin q.2
theorem am_lk_mem {pc : Nat} {T : List (Nat × am_I)} {f : am_I} (h : am_lk pc T = some f) : (pc, f) ∈ T := by
  induction T with
  | nil => cases h
  | cons q r ih =>
    unfold am_lk at h
    cases hb : Nat.beq pc q.1 with
    | true =>
      rw [hb] at h
      have e := Nat.eq_of_beq_eq_true hb
      cases h
      subst e
      exact List.mem_cons_self
    | false =>
      rw [hb] at h
      exact List.mem_cons_of_mem _ (ih h)
theorem am_mono {T : List (Nat × am_I)} (hT : am_linT T) : ∀ (n : Nat) (fr : am_F) (r : am_O × am_S), am_run T n fr = some r → am_run T (n + 1) fr = some r := by
  intro n
  induction n with
  | zero => intro fr r h; cases h
  | succ n ih =>
    intro fr r h
    unfold am_run at h ⊢
    cases hf : am_lk fr.1 T with
    | none => rw [hf] at h; cases h
    | some f =>
      rw [hf] at h
      dsimp only at h ⊢
      have hl : am_lin f := hT _ (am_lk_mem hf)
      rcases hl fr with ⟨z, hz⟩ | ⟨fr', hz⟩
      · rw [hz] at h ⊢; exact h
      · rw [hz] at h ⊢; exact ih fr' r h
theorem am_mono' {T : List (Nat × am_I)} (hT : am_linT T) {n m : Nat} (hnm : n ≤ m) {fr : am_F} {r : am_O × am_S} (h : am_run T n fr = some r) : am_run T m fr = some r := by
  obtain ⟨d, rfl⟩ := Nat.le.dest hnm
  induction d with
  | zero => exact h
  | succ d ih => exact am_mono hT _ _ _ (ih (Nat.le_add_right _ _))
/-- the run without a bound -/
noncomputable def am_E (T : List (Nat × am_I)) (fr : am_F) : am_R := by
  classical
  exact if h : ∃ n, (am_run T n fr).isSome = true then am_run T (Classical.choose h) fr else none
theorem am_E_run {T : List (Nat × am_I)} {fr : am_F} {r : am_O × am_S} (h : am_E T fr = some r) : ∃ n, am_run T n fr = some r := by
  unfold am_E at h
  split at h
  · exact ⟨_, h⟩
  · cases h
theorem am_run_E {T : List (Nat × am_I)} (hT : am_linT T) {n : Nat} {fr : am_F} {r : am_O × am_S} (h : am_run T n fr = some r) : am_E T fr = some r := by
  unfold am_E
  have hx : ∃ n, (am_run T n fr).isSome = true := ⟨n, by rw [h]; rfl⟩
  rw [dif_pos hx]
  obtain ⟨r', hr'⟩ := Option.isSome_iff_exists.mp (Classical.choose_spec hx)
  have a := am_mono' hT (Nat.le_max_left n (Classical.choose hx)) h
  have b := am_mono' hT (Nat.le_max_right n (Classical.choose hx)) hr'
  rw [hr', ← b, a]
theorem am_E_step {T : List (Nat × am_I)} (hT : am_linT T) {fr : am_F} {f : am_I} (hf : am_lk fr.1 T = some f) : am_E T fr = f fr (am_E T) := by
  have hl : am_lin f := hT _ (am_lk_mem hf)
  rcases hl fr with ⟨z, hz⟩ | ⟨fr', hz⟩
  · rw [hz]
    cases hzz : z with
    | none =>
      cases he : am_E T fr with
      | none => rfl
      | some r =>
        obtain ⟨n, hn⟩ := am_E_run he
        cases n with
        | zero => cases hn
        | succ n =>
          unfold am_run at hn
          rw [hf] at hn
          dsimp only at hn
          rw [hz, hzz] at hn
          cases hn
    | some r =>
      exact am_run_E hT (n := 1) (by unfold am_run; rw [hf]; dsimp only; rw [hz, hzz])
  · rw [hz]
    cases he : am_E T fr' with
    | none =>
      cases he2 : am_E T fr with
      | none => rfl
      | some r =>
        obtain ⟨n, hn⟩ := am_E_run he2
        cases n with
        | zero => cases hn
        | succ n =>
          unfold am_run at hn
          rw [hf] at hn
          dsimp only at hn
          rw [hz] at hn
          rw [am_run_E hT hn] at he
          cases he
    | some r =>
      obtain ⟨n, hn⟩ := am_E_run he
      exact am_run_E hT (n := n + 1) (by unfold am_run; rw [hf]; dsimp only; rw [hz]; exact hn)
/-- so many steps, but not through a head -/
def am_hd (pc : Nat) : List Nat → Bool
  | [] => false
  | q :: r => match Nat.beq pc q with
    | true => true
    | false => am_hd pc r
def am_blk (T : List (Nat × am_I)) (hs : List Nat) (k : am_F → am_R) : Nat → am_F → am_R
  | 0, fr => k fr
  | n + 1, fr => match am_lk fr.1 T with
    | some f => f fr (fun fr' => match am_hd fr'.1 hs with
      | true => k fr'
      | false => am_blk T hs k n fr')
    | none => none
theorem am_E_blk {T : List (Nat × am_I)} (hT : am_linT T) (hs : List Nat) : ∀ (n : Nat) (fr : am_F), am_E T fr = am_blk T hs (am_E T) n fr := by
  intro n
  induction n with
  | zero => intro fr; rfl
  | succ n ih =>
    intro fr
    unfold am_blk
    cases hf : am_lk fr.1 T with
    | none =>
      cases he : am_E T fr with
      | none => rfl
      | some r =>
        obtain ⟨n, hn⟩ := am_E_run he
        cases n with
        | zero => cases hn
        | succ n =>
          unfold am_run at hn
          rw [hf] at hn
          cases hn
    | some f =>
      dsimp only
      rw [am_E_step hT hf]
      congr 1
      funext fr'
      cases am_hd fr'.1 hs with
      | true => rfl
      | false => exact ih fr'
end
section
/-! instructions -/
def am_b (x : Int32) : Bool := decide (x = 0) || decide (x = 1)
def am_nz (x : Int32) : Bool := decide (¬ x = 0)
def am_nn (x : Int32) : Bool := decide (-1 ≤ x)
def am_nv (x : Int32) : Bool := decide (x < 0) || am_in x 128
def am_ws : List am_v → Nat
  | [] => 0
  | .inr (.inl _) :: t => 2 + am_ws t
  | _ :: t => 1 + am_ws t
def am_bI (r : am_R) (kk : Int32 → am_S → am_R) : am_R := match r with
  | some (.inl (some (.inl x)), g) => kk x g
  | some (.inr e, g) => some (.inr e, g)
  | _ => none
def am_bV (r : am_R) (kk : am_S → am_R) : am_R := match r with
  | some (.inl none, g) => kk g
  | some (.inr e, g) => some (.inr e, g)
  | _ => none
def am_bA (f : Nat) (r : am_R) (kk : Int32 → am_S → am_R) : am_R := match r with
  | some (.inl (some (.inr (.inr q))), g) => am_g (Nat.beq q.1 f) (kk q.2 g)
  | some (.inr e, g) => some (.inr e, g)
  | _ => none
def am_sw (x lo : Int32) (d : Nat) (kk : Nat → am_R) : List Nat → am_R
  | [] => kk d
  | t :: ts => if x = lo then kk t else am_sw x (lo + 1) d kk ts
def am_l1 (K : (am_F → am_R) → am_R) : Prop := (∃ r, ∀ k, K k = r) ∨ (∃ fr', ∀ k, K k = k fr')
theorem am_l1_c (r : am_R) : am_l1 (fun _ => r) := Or.inl ⟨r, fun _ => rfl⟩
theorem am_l1_k (fr : am_F) : am_l1 (fun k => k fr) := Or.inr ⟨fr, fun _ => rfl⟩
theorem am_l1_g {K : (am_F → am_R) → am_R} (b : Bool) (h : am_l1 K) : am_l1 (fun k => am_g b (K k)) := by
  cases b
  · exact am_l1_c none
  · exact h
theorem am_l1_gr {K : (am_F → am_R) → am_R} (f : Nat) (x : Int32) (h : am_l1 K) : am_l1 (fun k => am_gr f x (K k)) := by
  unfold am_gr
  cases Nat.beq (am_ct f) 1
  · exact am_l1_g _ h
  · exact h
theorem am_l1_if {c : Prop} [Decidable c] {K L : (am_F → am_R) → am_R} (h1 : am_l1 K) (h2 : am_l1 L) : am_l1 (fun k => if c then K k else L k) := by
  by_cases h : c
  · simp only [if_pos h]; exact h1
  · simp only [if_neg h]; exact h2
theorem am_l1_bI {r : am_R} {kk : (am_F → am_R) → Int32 → am_S → am_R} (h : ∀ v g, am_l1 (fun k => kk k v g)) : am_l1 (fun k => am_bI r (kk k)) := by
  rcases r with _ | ⟨(_ | v) | e, g⟩
  · exact am_l1_c none
  · exact am_l1_c none
  · rcases v with x | x | q
    · exact h x g
    · exact am_l1_c none
    · exact am_l1_c none
  · exact am_l1_c _
theorem am_l1_bV {r : am_R} {kk : (am_F → am_R) → am_S → am_R} (h : ∀ g, am_l1 (fun k => kk k g)) : am_l1 (fun k => am_bV r (kk k)) := by
  rcases r with _ | ⟨(_ | v) | e, g⟩
  · exact am_l1_c none
  · exact h g
  · exact am_l1_c none
  · exact am_l1_c _
theorem am_l1_bA {f : Nat} {r : am_R} {kk : (am_F → am_R) → Int32 → am_S → am_R} (h : ∀ v g, am_l1 (fun k => kk k v g)) : am_l1 (fun k => am_bA f r (kk k)) := by
  rcases r with _ | ⟨(_ | v) | e, g⟩
  · exact am_l1_c none
  · exact am_l1_c none
  · rcases v with x | x | q
    · exact am_l1_c none
    · exact am_l1_c none
    · exact am_l1_g _ (h _ g)
  · exact am_l1_c _
theorem am_l1_sw {x lo : Int32} {d : Nat} {ts : List Nat} {kk : (am_F → am_R) → Nat → am_R} (h : ∀ t, am_l1 (fun k => kk k t)) : am_l1 (fun k => am_sw x lo d (kk k) ts) := by
  induction ts generalizing lo with
  | nil => exact h d
  | cons t ts ih => exact am_l1_if (h t) ih

def im_il (i n : Nat) : am_I := fun fr k => match fr.2.1[i]? with
  | some (some (.inl x)) => k (fr.1 + n, fr.2.1, .inl x :: fr.2.2.1, fr.2.2.2)
  | _ => none
def im_al (i n : Nat) : am_I := fun fr k => match fr.2.1[i]? with
  | some (some (.inr (.inr q))) => k (fr.1 + n, fr.2.1, .inr (.inr q) :: fr.2.2.1, fr.2.2.2)
  | _ => none
def im_is (i n : Nat) : am_I := fun fr k => match fr.2.2.1 with
  | .inl x :: r => match fr.2.1[i]? with
    | some _ => k (fr.1 + n, fr.2.1.set i (some (.inl x)), r, fr.2.2.2)
    | none => none
  | _ => none
def im_as (i n : Nat) : am_I := fun fr k => match fr.2.2.1 with
  | .inr (.inr q) :: r => match fr.2.1[i]? with
    | some _ => k (fr.1 + n, fr.2.1.set i (some (.inr (.inr q))), r, fr.2.2.2)
    | none => none
  | _ => none
def im_ic (v : Int32) (n : Nat) : am_I := fun fr k => k (fr.1 + n, fr.2.1, .inl v :: fr.2.2.1, fr.2.2.2)
def im_nl : am_I := fun fr k => k (fr.1 + 1, fr.2.1, .inr (.inr (5, -1)) :: fr.2.2.1, fr.2.2.2)
def im_in (i : Nat) (d : Int32) : am_I := fun fr k => match fr.2.1[i]? with
  | some (some (.inl x)) => k (fr.1 + 3, fr.2.1.set i (some (.inl (x + d))), fr.2.2.1, fr.2.2.2)
  | _ => none
def im_go (t : Nat) : am_I := fun fr k => k (t, fr.2.1, fr.2.2.1, fr.2.2.2)
def im_du : am_I := fun fr k => match fr.2.2.1 with
  | .inl x :: r => k (fr.1 + 1, fr.2.1, .inl x :: .inl x :: r, fr.2.2.2)
  | .inr (.inr q) :: r => k (fr.1 + 1, fr.2.1, .inr (.inr q) :: .inr (.inr q) :: r, fr.2.2.2)
  | _ => none
def im_d2 : am_I := fun fr k => match fr.2.2.1 with
  | .inl y :: .inr (.inr q) :: r => k (fr.1 + 1, fr.2.1, .inl y :: .inr (.inr q) :: .inl y :: .inr (.inr q) :: r, fr.2.2.2)
  | _ => none
def im_i2s : am_I := fun fr k => match fr.2.2.1 with
  | .inl x :: r => k (fr.1 + 1, fr.2.1, .inl x.toInt16.toInt32 :: r, fr.2.2.2)
  | _ => none
def im_i2l : am_I := fun fr k => match fr.2.2.1 with
  | .inl x :: r => k (fr.1 + 1, fr.2.1, .inr (.inl x) :: r, fr.2.2.2)
  | _ => none
def im_add : am_I := fun fr k => match fr.2.2.1 with
  | .inl y :: .inl x :: r => k (fr.1 + 1, fr.2.1, .inl (x + y) :: r, fr.2.2.2)
  | _ => none
def im_sub : am_I := fun fr k => match fr.2.2.1 with
  | .inl y :: .inl x :: r => k (fr.1 + 1, fr.2.1, .inl (x - y) :: r, fr.2.2.2)
  | _ => none
def im_mul : am_I := fun fr k => match fr.2.2.1 with
  | .inl y :: .inl x :: r => k (fr.1 + 1, fr.2.1, .inl (x * y) :: r, fr.2.2.2)
  | _ => none
def im_and : am_I := fun fr k => match fr.2.2.1 with
  | .inl y :: .inl x :: r => k (fr.1 + 1, fr.2.1, .inl (x &&& y) :: r, fr.2.2.2)
  | _ => none
def im_shr : am_I := fun fr k => match fr.2.2.1 with
  | .inl y :: .inl x :: r => k (fr.1 + 1, fr.2.1, .inl (x >>> (y &&& 31)) :: r, fr.2.2.2)
  | _ => none
def im_ush : am_I := fun fr k => match fr.2.2.1 with
  | .inl y :: .inl x :: r => k (fr.1 + 1, fr.2.1, .inl ((x.toUInt32 >>> (y.toUInt32 &&& Int32.toUInt32 31)).toInt32) :: r, fr.2.2.2)
  | _ => none
def im_div : am_I := fun fr k => match fr.2.2.1 with
  | .inl y :: .inl x :: r => am_g (am_nz y) (k (fr.1 + 1, fr.2.1, .inl (x / y) :: r, fr.2.2.2))
  | _ => none
def im_rem : am_I := fun fr k => match fr.2.2.1 with
  | .inl y :: .inl x :: r => am_g (am_nz y) (k (fr.1 + 1, fr.2.1, .inl (x - x / y * y) :: r, fr.2.2.2))
  | _ => none
def im_feq (t : Nat) : am_I := fun fr k => match fr.2.2.1 with
  | .inl x :: r => if x = 0 then k (t, fr.2.1, r, fr.2.2.2) else k (fr.1 + 3, fr.2.1, r, fr.2.2.2)
  | _ => none
def im_fne (t : Nat) : am_I := fun fr k => match fr.2.2.1 with
  | .inl x :: r => if x = 0 then k (fr.1 + 3, fr.2.1, r, fr.2.2.2) else k (t, fr.2.1, r, fr.2.2.2)
  | _ => none
def im_flt (t : Nat) : am_I := fun fr k => match fr.2.2.1 with
  | .inl x :: r => if x < 0 then k (t, fr.2.1, r, fr.2.2.2) else k (fr.1 + 3, fr.2.1, r, fr.2.2.2)
  | _ => none
def im_fge (t : Nat) : am_I := fun fr k => match fr.2.2.1 with
  | .inl x :: r => if 0 ≤ x then k (t, fr.2.1, r, fr.2.2.2) else k (fr.1 + 3, fr.2.1, r, fr.2.2.2)
  | _ => none
def im_fgt (t : Nat) : am_I := fun fr k => match fr.2.2.1 with
  | .inl x :: r => if 0 < x then k (t, fr.2.1, r, fr.2.2.2) else k (fr.1 + 3, fr.2.1, r, fr.2.2.2)
  | _ => none
def im_fle (t : Nat) : am_I := fun fr k => match fr.2.2.1 with
  | .inl x :: r => if x ≤ 0 then k (t, fr.2.1, r, fr.2.2.2) else k (fr.1 + 3, fr.2.1, r, fr.2.2.2)
  | _ => none
def im_ceq (t : Nat) : am_I := fun fr k => match fr.2.2.1 with
  | .inl y :: .inl x :: r => if x = y then k (t, fr.2.1, r, fr.2.2.2) else k (fr.1 + 3, fr.2.1, r, fr.2.2.2)
  | _ => none
def im_cne (t : Nat) : am_I := fun fr k => match fr.2.2.1 with
  | .inl y :: .inl x :: r => if x = y then k (fr.1 + 3, fr.2.1, r, fr.2.2.2) else k (t, fr.2.1, r, fr.2.2.2)
  | _ => none
def im_clt (t : Nat) : am_I := fun fr k => match fr.2.2.1 with
  | .inl y :: .inl x :: r => if x < y then k (t, fr.2.1, r, fr.2.2.2) else k (fr.1 + 3, fr.2.1, r, fr.2.2.2)
  | _ => none
def im_cge (t : Nat) : am_I := fun fr k => match fr.2.2.1 with
  | .inl y :: .inl x :: r => if y ≤ x then k (t, fr.2.1, r, fr.2.2.2) else k (fr.1 + 3, fr.2.1, r, fr.2.2.2)
  | _ => none
def im_cgt (t : Nat) : am_I := fun fr k => match fr.2.2.1 with
  | .inl y :: .inl x :: r => if y < x then k (t, fr.2.1, r, fr.2.2.2) else k (fr.1 + 3, fr.2.1, r, fr.2.2.2)
  | _ => none
def im_cle (t : Nat) : am_I := fun fr k => match fr.2.2.1 with
  | .inl y :: .inl x :: r => if x ≤ y then k (t, fr.2.1, r, fr.2.2.2) else k (fr.1 + 3, fr.2.1, r, fr.2.2.2)
  | _ => none
def im_nu (t : Nat) : am_I := fun fr k => match fr.2.2.1 with
  | .inr (.inr q) :: r => am_g (!(Nat.beq (am_ct q.1) 1)) (if q.2 < 0 then k (t, fr.2.1, r, fr.2.2.2) else k (fr.1 + 3, fr.2.1, r, fr.2.2.2))
  | _ => none
def im_nn (t : Nat) : am_I := fun fr k => match fr.2.2.1 with
  | .inr (.inr q) :: r => am_g (!(Nat.beq (am_ct q.1) 1)) (if q.2 < 0 then k (fr.1 + 3, fr.2.1, r, fr.2.2.2) else k (t, fr.2.1, r, fr.2.2.2))
  | _ => none
def im_an (t : Nat) : am_I := fun fr k => match fr.2.2.1 with
  | .inr (.inr q') :: .inr (.inr q) :: r => am_g (Nat.beq q.1 q'.1 && !(Nat.beq (am_ct q.1) 1)) (am_g (am_nn q.2) (am_g (am_nn q'.2) (if q.2 = q'.2 then k (fr.1 + 3, fr.2.1, r, fr.2.2.2) else k (t, fr.2.1, r, fr.2.2.2))))
  | _ => none
def im_ts (lo : Int32) (ts : List Nat) (d : Nat) : am_I := fun fr k => match fr.2.2.1 with
  | .inl x :: r => am_sw x lo d (fun t => k (t, fr.2.1, r, fr.2.2.2)) ts
  | _ => none
def im_gi (f j : Nat) : am_I := fun fr k => match fr.2.2.1 with
  | .inr (.inr q) :: r => am_g (Nat.beq q.1 f) (am_gr f q.2 (k (fr.1 + 3, fr.2.1, .inl (fr.2.2.2 f (am_ix f q.2) j) :: r, fr.2.2.2)))
  | _ => none
def im_gf (f j n : Nat) : am_I := fun fr k => match fr.2.2.1 with
  | .inr (.inr q) :: r => am_g (Nat.beq q.1 f) (am_gr f q.2 (k (fr.1 + 3, fr.2.1, .inr (.inr (n, q.2)) :: r, fr.2.2.2)))
  | _ => none
def im_pi (f j : Nat) : am_I := fun fr k => match fr.2.2.1 with
  | .inl v :: .inr (.inr q) :: r => am_g (Nat.beq q.1 f) (am_gr f q.2 (k (fr.1 + 3, fr.2.1, r, am_up fr.2.2.2 f (am_ix f q.2) j v)))
  | _ => none
def im_pz (f j : Nat) : am_I := fun fr k => match fr.2.2.1 with
  | .inl v :: .inr (.inr q) :: r => am_g (Nat.beq q.1 f) (am_gr f q.2 (am_g (am_b v) (k (fr.1 + 3, fr.2.1, r, am_up fr.2.2.2 f (am_ix f q.2) j v))))
  | _ => none
def im_ia : am_I := fun fr k => match fr.2.2.1 with
  | .inl y :: .inr (.inr q) :: r => am_g (Nat.beq (am_ak q.1) 1) (am_gr q.1 q.2 (am_g (am_in y (am_ln q.1)) (k (fr.1 + 1, fr.2.1, .inl (fr.2.2.2 q.1 (am_ix q.1 q.2) y.toNatClampNeg) :: r, fr.2.2.2))))
  | _ => none
def im_ba : am_I := fun fr k => match fr.2.2.1 with
  | .inl y :: .inr (.inr q) :: r => am_g (Nat.beq (am_ak q.1) 2) (am_gr q.1 q.2 (am_g (am_in y (am_ln q.1)) (k (fr.1 + 1, fr.2.1, .inl (fr.2.2.2 q.1 (am_ix q.1 q.2) y.toNatClampNeg) :: r, fr.2.2.2))))
  | _ => none
def im_aa : am_I := fun fr k => match fr.2.2.1 with
  | .inl y :: .inr (.inr q) :: r => match am_ak q.1 with
    | 3 => am_gr q.1 q.2 (am_g (am_in y (am_ln q.1)) (k (fr.1 + 1, fr.2.1, .inr (.inr (5, fr.2.2.2 q.1 (am_ix q.1 q.2) y.toNatClampNeg)) :: r, fr.2.2.2)))
    | 4 => am_gr q.1 q.2 (am_g (am_in y (am_ln q.1)) (k (fr.1 + 1, fr.2.1, .inr (.inr (am_af q.1, y)) :: r, fr.2.2.2)))
    | _ => none
  | _ => none
def im_la : am_I := fun fr k => match fr.2.2.1 with
  | .inl y :: .inr (.inr q) :: r => am_g (Nat.beq (am_ak q.1) 6) (am_gr q.1 q.2 (am_g (am_in y (am_ln q.1)) (k (fr.1 + 1, fr.2.1, .inr (.inl (fr.2.2.2 q.1 (am_ix q.1 q.2) y.toNatClampNeg)) :: r, fr.2.2.2))))
  | _ => none
def im_si : am_I := fun fr k => match fr.2.2.1 with
  | .inl v :: .inl y :: .inr (.inr q) :: r => am_g (Nat.beq (am_ak q.1) 1) (am_gr q.1 q.2 (am_g (am_in y (am_ln q.1)) (k (fr.1 + 1, fr.2.1, r, am_up fr.2.2.2 q.1 (am_ix q.1 q.2) y.toNatClampNeg v))))
  | _ => none
def im_sb : am_I := fun fr k => match fr.2.2.1 with
  | .inl v :: .inl y :: .inr (.inr q) :: r => am_g (Nat.beq (am_ak q.1) 2) (am_gr q.1 q.2 (am_g (am_in y (am_ln q.1)) (am_g (am_b v) (k (fr.1 + 1, fr.2.1, r, am_up fr.2.2.2 q.1 (am_ix q.1 q.2) y.toNatClampNeg v)))))
  | _ => none
def im_sl : am_I := fun fr k => match fr.2.2.1 with
  | .inr (.inl v) :: .inl y :: .inr (.inr q) :: r => am_g (Nat.beq (am_ak q.1) 6) (am_gr q.1 q.2 (am_g (am_in y (am_ln q.1)) (k (fr.1 + 1, fr.2.1, r, am_up fr.2.2.2 q.1 (am_ix q.1 q.2) y.toNatClampNeg v))))
  | _ => none
def im_sa : am_I := fun fr k => match fr.2.2.1 with
  | .inr (.inr v) :: .inl y :: .inr (.inr q) :: r => am_g (Nat.beq v.1 5 && Nat.beq (am_ak q.1) 3) (am_gr q.1 q.2 (am_g (am_in y (am_ln q.1)) (am_g (am_nv v.2) (k (fr.1 + 1, fr.2.1, r, am_up fr.2.2.2 q.1 (am_ix q.1 q.2) y.toNatClampNeg v.2)))))
  | _ => none
def im_le : am_I := fun fr k => match fr.2.2.1 with
  | .inr (.inr q) :: r => am_g (Nat.ble 1 (am_ak q.1) && Nat.ble (am_ak q.1) 6) (am_gr q.1 q.2 (k (fr.1 + 1, fr.2.1, .inl (Int32.ofNat (am_ln q.1)) :: r, fr.2.2.2)))
  | _ => none
def im_ri : am_I := fun fr _ => match fr.2.2.1 with
  | [.inl x] => some (.inl (some (.inl x)), fr.2.2.2)
  | _ => none
def im_rz : am_I := fun fr _ => match fr.2.2.1 with
  | [.inl x] => am_g (am_b x) (some (.inl (some (.inl x)), fr.2.2.2))
  | _ => none
def im_ra : am_I := fun fr _ => match fr.2.2.1 with
  | [.inr (.inr q)] => some (.inl (some (.inr (.inr q))), fr.2.2.2)
  | _ => none
def im_rv : am_I := fun fr _ => match fr.2.2.1 with
  | [] => some (.inl none, fr.2.2.2)
  | _ => none
def im_th (e : Nat) : am_I := fun fr _ => match Nat.ble (am_ws fr.2.2.1) 8 with
  | true => some (.inr e, fr.2.2.2)
  | false => none
def im_vI (f n : Nat) (F : am_C) : am_I := fun fr k => match fr.2.2.1.drop n with
  | .inr (.inr q) :: r => am_g (Nat.beq q.1 f && (Nat.ble (am_ws r) 8 && Nat.beq (fr.2.2.1.take n).length n)) (am_gr f q.2 (am_bI (F (.inr (.inr (f, q.2)) :: (fr.2.2.1.take n).reverse) fr.2.2.2) (fun v g => k (fr.1 + 3, fr.2.1, .inl v :: r, g))))
  | _ => none
def im_vV (f n : Nat) (F : am_C) : am_I := fun fr k => match fr.2.2.1.drop n with
  | .inr (.inr q) :: r => am_g (Nat.beq q.1 f && (Nat.ble (am_ws r) 8 && Nat.beq (fr.2.2.1.take n).length n)) (am_gr f q.2 (am_bV (F (.inr (.inr (f, q.2)) :: (fr.2.2.1.take n).reverse) fr.2.2.2) (fun g => k (fr.1 + 3, fr.2.1, r, g))))
  | _ => none
def im_vA (h : Nat) (f n : Nat) (F : am_C) : am_I := fun fr k => match fr.2.2.1.drop n with
  | .inr (.inr q) :: r => am_g (Nat.beq q.1 f && (Nat.ble (am_ws r) 8 && Nat.beq (fr.2.2.1.take n).length n)) (am_gr f q.2 (am_bA h (F (.inr (.inr (f, q.2)) :: (fr.2.2.1.take n).reverse) fr.2.2.2) (fun v g => k (fr.1 + 3, fr.2.1, .inr (.inr (h, v)) :: r, g))))
  | _ => none
def im_sI (n : Nat) (F : am_C) : am_I := fun fr k => am_g (Nat.ble (am_ws (fr.2.2.1.drop n)) 8 && Nat.beq (fr.2.2.1.take n).length n) (am_bI (F (fr.2.2.1.take n).reverse fr.2.2.2) (fun v g => k (fr.1 + 3, fr.2.1, .inl v :: fr.2.2.1.drop n, g)))
theorem ln_il (i n : Nat) : am_lin (im_il i n) := by
  intro fr
  show am_l1 _
  unfold im_il
  rcases fr.2.1[i]? with _ | _ | x | x | x <;> first | exact am_l1_c _ | exact am_l1_k _
theorem ln_al (i n : Nat) : am_lin (im_al i n) := by
  intro fr
  show am_l1 _
  unfold im_al
  rcases fr.2.1[i]? with _ | _ | x | x | x <;> first | exact am_l1_c _ | exact am_l1_k _
theorem ln_in (i : Nat) (d : Int32) : am_lin (im_in i d) := by
  intro fr
  show am_l1 _
  unfold im_in
  rcases fr.2.1[i]? with _ | _ | x | x | x <;> first | exact am_l1_c _ | exact am_l1_k _
theorem ln_is (i n : Nat) : am_lin (im_is i n) := by
  intro fr
  show am_l1 _
  unfold im_is
  rcases fr.2.2.1 with _ | ⟨x | x | x, r⟩ <;> first | exact am_l1_c _ | (rcases fr.2.1[i]? with _ | y <;> first | exact am_l1_c _ | exact am_l1_k _)
theorem ln_as (i n : Nat) : am_lin (im_as i n) := by
  intro fr
  show am_l1 _
  unfold im_as
  rcases fr.2.2.1 with _ | ⟨x | x | x, r⟩ <;> first | exact am_l1_c _ | (rcases fr.2.1[i]? with _ | y <;> first | exact am_l1_c _ | exact am_l1_k _)
theorem ln_ic (v : Int32) (n : Nat) : am_lin (im_ic v n) := by
  intro fr
  show am_l1 _
  exact am_l1_k _
theorem ln_nl : am_lin (im_nl) := by
  intro fr
  show am_l1 _
  exact am_l1_k _
theorem ln_go (t : Nat) : am_lin (im_go t) := by
  intro fr
  show am_l1 _
  exact am_l1_k _
theorem ln_du : am_lin (im_du) := by
  intro fr
  show am_l1 _
  unfold im_du
  rcases fr.2.2.1 with _ | ⟨x | x | x, r⟩ <;> first | exact am_l1_c _ | exact am_l1_k _
theorem ln_i2s : am_lin (im_i2s) := by
  intro fr
  show am_l1 _
  unfold im_i2s
  rcases fr.2.2.1 with _ | ⟨x | x | x, r⟩ <;> first | exact am_l1_c _ | exact am_l1_k _
theorem ln_i2l : am_lin (im_i2l) := by
  intro fr
  show am_l1 _
  unfold im_i2l
  rcases fr.2.2.1 with _ | ⟨x | x | x, r⟩ <;> first | exact am_l1_c _ | exact am_l1_k _
theorem ln_d2 : am_lin (im_d2) := by
  intro fr
  show am_l1 _
  unfold im_d2
  rcases fr.2.2.1 with _ | ⟨x | x | x, _ | ⟨y | y | y, r⟩⟩ <;> first | exact am_l1_c _ | exact am_l1_k _
theorem ln_add : am_lin (im_add) := by
  intro fr
  show am_l1 _
  unfold im_add
  rcases fr.2.2.1 with _ | ⟨x | x | x, _ | ⟨y | y | y, r⟩⟩ <;> first | exact am_l1_c _ | exact am_l1_k _
theorem ln_sub : am_lin (im_sub) := by
  intro fr
  show am_l1 _
  unfold im_sub
  rcases fr.2.2.1 with _ | ⟨x | x | x, _ | ⟨y | y | y, r⟩⟩ <;> first | exact am_l1_c _ | exact am_l1_k _
theorem ln_mul : am_lin (im_mul) := by
  intro fr
  show am_l1 _
  unfold im_mul
  rcases fr.2.2.1 with _ | ⟨x | x | x, _ | ⟨y | y | y, r⟩⟩ <;> first | exact am_l1_c _ | exact am_l1_k _
theorem ln_and : am_lin (im_and) := by
  intro fr
  show am_l1 _
  unfold im_and
  rcases fr.2.2.1 with _ | ⟨x | x | x, _ | ⟨y | y | y, r⟩⟩ <;> first | exact am_l1_c _ | exact am_l1_k _
theorem ln_shr : am_lin (im_shr) := by
  intro fr
  show am_l1 _
  unfold im_shr
  rcases fr.2.2.1 with _ | ⟨x | x | x, _ | ⟨y | y | y, r⟩⟩ <;> first | exact am_l1_c _ | exact am_l1_k _
theorem ln_ush : am_lin (im_ush) := by
  intro fr
  show am_l1 _
  unfold im_ush
  rcases fr.2.2.1 with _ | ⟨x | x | x, _ | ⟨y | y | y, r⟩⟩ <;> first | exact am_l1_c _ | exact am_l1_k _
theorem ln_div : am_lin (im_div) := by
  intro fr
  show am_l1 _
  unfold im_div
  rcases fr.2.2.1 with _ | ⟨x | x | x, _ | ⟨y | y | y, r⟩⟩ <;> first | exact am_l1_c _ | exact am_l1_g _ (am_l1_k _)
theorem ln_rem : am_lin (im_rem) := by
  intro fr
  show am_l1 _
  unfold im_rem
  rcases fr.2.2.1 with _ | ⟨x | x | x, _ | ⟨y | y | y, r⟩⟩ <;> first | exact am_l1_c _ | exact am_l1_g _ (am_l1_k _)
theorem ln_feq (t : Nat) : am_lin (im_feq t) := by
  intro fr
  show am_l1 _
  unfold im_feq
  rcases fr.2.2.1 with _ | ⟨x | x | x, r⟩ <;> first | exact am_l1_c _ | exact am_l1_if (am_l1_k _) (am_l1_k _)
theorem ln_fne (t : Nat) : am_lin (im_fne t) := by
  intro fr
  show am_l1 _
  unfold im_fne
  rcases fr.2.2.1 with _ | ⟨x | x | x, r⟩ <;> first | exact am_l1_c _ | exact am_l1_if (am_l1_k _) (am_l1_k _)
theorem ln_flt (t : Nat) : am_lin (im_flt t) := by
  intro fr
  show am_l1 _
  unfold im_flt
  rcases fr.2.2.1 with _ | ⟨x | x | x, r⟩ <;> first | exact am_l1_c _ | exact am_l1_if (am_l1_k _) (am_l1_k _)
theorem ln_fge (t : Nat) : am_lin (im_fge t) := by
  intro fr
  show am_l1 _
  unfold im_fge
  rcases fr.2.2.1 with _ | ⟨x | x | x, r⟩ <;> first | exact am_l1_c _ | exact am_l1_if (am_l1_k _) (am_l1_k _)
theorem ln_fgt (t : Nat) : am_lin (im_fgt t) := by
  intro fr
  show am_l1 _
  unfold im_fgt
  rcases fr.2.2.1 with _ | ⟨x | x | x, r⟩ <;> first | exact am_l1_c _ | exact am_l1_if (am_l1_k _) (am_l1_k _)
theorem ln_fle (t : Nat) : am_lin (im_fle t) := by
  intro fr
  show am_l1 _
  unfold im_fle
  rcases fr.2.2.1 with _ | ⟨x | x | x, r⟩ <;> first | exact am_l1_c _ | exact am_l1_if (am_l1_k _) (am_l1_k _)
theorem ln_ceq (t : Nat) : am_lin (im_ceq t) := by
  intro fr
  show am_l1 _
  unfold im_ceq
  rcases fr.2.2.1 with _ | ⟨x | x | x, _ | ⟨y | y | y, r⟩⟩ <;> first | exact am_l1_c _ | exact am_l1_if (am_l1_k _) (am_l1_k _)
theorem ln_cne (t : Nat) : am_lin (im_cne t) := by
  intro fr
  show am_l1 _
  unfold im_cne
  rcases fr.2.2.1 with _ | ⟨x | x | x, _ | ⟨y | y | y, r⟩⟩ <;> first | exact am_l1_c _ | exact am_l1_if (am_l1_k _) (am_l1_k _)
theorem ln_clt (t : Nat) : am_lin (im_clt t) := by
  intro fr
  show am_l1 _
  unfold im_clt
  rcases fr.2.2.1 with _ | ⟨x | x | x, _ | ⟨y | y | y, r⟩⟩ <;> first | exact am_l1_c _ | exact am_l1_if (am_l1_k _) (am_l1_k _)
theorem ln_cge (t : Nat) : am_lin (im_cge t) := by
  intro fr
  show am_l1 _
  unfold im_cge
  rcases fr.2.2.1 with _ | ⟨x | x | x, _ | ⟨y | y | y, r⟩⟩ <;> first | exact am_l1_c _ | exact am_l1_if (am_l1_k _) (am_l1_k _)
theorem ln_cgt (t : Nat) : am_lin (im_cgt t) := by
  intro fr
  show am_l1 _
  unfold im_cgt
  rcases fr.2.2.1 with _ | ⟨x | x | x, _ | ⟨y | y | y, r⟩⟩ <;> first | exact am_l1_c _ | exact am_l1_if (am_l1_k _) (am_l1_k _)
theorem ln_cle (t : Nat) : am_lin (im_cle t) := by
  intro fr
  show am_l1 _
  unfold im_cle
  rcases fr.2.2.1 with _ | ⟨x | x | x, _ | ⟨y | y | y, r⟩⟩ <;> first | exact am_l1_c _ | exact am_l1_if (am_l1_k _) (am_l1_k _)
theorem ln_nu (t : Nat) : am_lin (im_nu t) := by
  intro fr
  show am_l1 _
  unfold im_nu
  rcases fr.2.2.1 with _ | ⟨x | x | x, r⟩ <;> first | exact am_l1_c _ | exact am_l1_g _ (am_l1_if (am_l1_k _) (am_l1_k _))
theorem ln_nn (t : Nat) : am_lin (im_nn t) := by
  intro fr
  show am_l1 _
  unfold im_nn
  rcases fr.2.2.1 with _ | ⟨x | x | x, r⟩ <;> first | exact am_l1_c _ | exact am_l1_g _ (am_l1_if (am_l1_k _) (am_l1_k _))
theorem ln_an (t : Nat) : am_lin (im_an t) := by
  intro fr
  show am_l1 _
  unfold im_an
  rcases fr.2.2.1 with _ | ⟨x | x | x, _ | ⟨y | y | y, r⟩⟩ <;> first | exact am_l1_c _ | exact am_l1_g _ (am_l1_g _ (am_l1_g _ (am_l1_if (am_l1_k _) (am_l1_k _))))
theorem ln_ts (lo : Int32) (ts : List Nat) (d : Nat) : am_lin (im_ts lo ts d) := by
  intro fr
  show am_l1 _
  unfold im_ts
  rcases fr.2.2.1 with _ | ⟨x | x | x, r⟩ <;> first | exact am_l1_c _ | exact am_l1_sw (fun _ => am_l1_k _)
theorem ln_gi (f j : Nat) : am_lin (im_gi f j) := by
  intro fr
  show am_l1 _
  unfold im_gi
  rcases fr.2.2.1 with _ | ⟨x | x | x, r⟩ <;> first | exact am_l1_c _ | exact am_l1_g _ (am_l1_gr _ _ (am_l1_k _))
theorem ln_gf (f j n : Nat) : am_lin (im_gf f j n) := by
  intro fr
  show am_l1 _
  unfold im_gf
  rcases fr.2.2.1 with _ | ⟨x | x | x, r⟩ <;> first | exact am_l1_c _ | exact am_l1_g _ (am_l1_gr _ _ (am_l1_k _))
theorem ln_pi (f j : Nat) : am_lin (im_pi f j) := by
  intro fr
  show am_l1 _
  unfold im_pi
  rcases fr.2.2.1 with _ | ⟨x | x | x, _ | ⟨y | y | y, r⟩⟩ <;> first | exact am_l1_c _ | exact am_l1_g _ (am_l1_gr _ _ (am_l1_k _))
theorem ln_pz (f j : Nat) : am_lin (im_pz f j) := by
  intro fr
  show am_l1 _
  unfold im_pz
  rcases fr.2.2.1 with _ | ⟨x | x | x, _ | ⟨y | y | y, r⟩⟩ <;> first | exact am_l1_c _ | exact am_l1_g _ (am_l1_gr _ _ (am_l1_g _ (am_l1_k _)))
theorem ln_ia : am_lin (im_ia) := by
  intro fr
  show am_l1 _
  unfold im_ia
  rcases fr.2.2.1 with _ | ⟨x | x | x, _ | ⟨y | y | y, r⟩⟩ <;> first | exact am_l1_c _ | exact am_l1_g _ (am_l1_gr _ _ (am_l1_g _ (am_l1_k _)))
theorem ln_ba : am_lin (im_ba) := by
  intro fr
  show am_l1 _
  unfold im_ba
  rcases fr.2.2.1 with _ | ⟨x | x | x, _ | ⟨y | y | y, r⟩⟩ <;> first | exact am_l1_c _ | exact am_l1_g _ (am_l1_gr _ _ (am_l1_g _ (am_l1_k _)))
theorem ln_la : am_lin (im_la) := by
  intro fr
  show am_l1 _
  unfold im_la
  rcases fr.2.2.1 with _ | ⟨x | x | x, _ | ⟨y | y | y, r⟩⟩ <;> first | exact am_l1_c _ | exact am_l1_g _ (am_l1_gr _ _ (am_l1_g _ (am_l1_k _)))
theorem ln_aa : am_lin (im_aa) := by
  intro fr
  show am_l1 _
  unfold im_aa
  rcases fr.2.2.1 with _ | ⟨x | x | x, _ | ⟨y | y | y, r⟩⟩ <;> try exact am_l1_c _
  dsimp only
  by_cases h3 : am_ak y.1 = 3
  · simp only [h3]; exact am_l1_gr _ _ (am_l1_g _ (am_l1_k _))
  · by_cases h4 : am_ak y.1 = 4
    · simp only [h4]; exact am_l1_gr _ _ (am_l1_g _ (am_l1_k _))
    · have e : ∀ (a b : am_R), (match am_ak y.1 with | 3 => a | 4 => b | _ => none) = none := fun a b => by split <;> first | rfl | contradiction
      simp only [e]; exact am_l1_c _
theorem ln_si : am_lin (im_si) := by
  intro fr
  show am_l1 _
  unfold im_si
  rcases fr.2.2.1 with _ | ⟨x | x | x, _ | ⟨y | y | y, _ | ⟨z | z | z, r⟩⟩⟩ <;> first | exact am_l1_c _ | exact am_l1_g _ (am_l1_gr _ _ (am_l1_g _ (am_l1_k _)))
theorem ln_sl : am_lin (im_sl) := by
  intro fr
  show am_l1 _
  unfold im_sl
  rcases fr.2.2.1 with _ | ⟨x | x | x, _ | ⟨y | y | y, _ | ⟨z | z | z, r⟩⟩⟩ <;> first | exact am_l1_c _ | exact am_l1_g _ (am_l1_gr _ _ (am_l1_g _ (am_l1_k _)))
theorem ln_sb : am_lin (im_sb) := by
  intro fr
  show am_l1 _
  unfold im_sb
  rcases fr.2.2.1 with _ | ⟨x | x | x, _ | ⟨y | y | y, _ | ⟨z | z | z, r⟩⟩⟩ <;> first | exact am_l1_c _ | exact am_l1_g _ (am_l1_gr _ _ (am_l1_g _ (am_l1_g _ (am_l1_k _))))
theorem ln_sa : am_lin (im_sa) := by
  intro fr
  show am_l1 _
  unfold im_sa
  rcases fr.2.2.1 with _ | ⟨x | x | x, _ | ⟨y | y | y, _ | ⟨z | z | z, r⟩⟩⟩ <;> first | exact am_l1_c _ | exact am_l1_g _ (am_l1_gr _ _ (am_l1_g _ (am_l1_g _ (am_l1_k _))))
theorem ln_le : am_lin (im_le) := by
  intro fr
  show am_l1 _
  unfold im_le
  rcases fr.2.2.1 with _ | ⟨x | x | x, r⟩ <;> first | exact am_l1_c _ | exact am_l1_g _ (am_l1_gr _ _ (am_l1_k _))
theorem ln_ri : am_lin (im_ri) := by
  intro fr
  show am_l1 _
  exact am_l1_c _
theorem ln_rz : am_lin (im_rz) := by
  intro fr
  show am_l1 _
  exact am_l1_c _
theorem ln_ra : am_lin (im_ra) := by
  intro fr
  show am_l1 _
  exact am_l1_c _
theorem ln_rv : am_lin (im_rv) := by
  intro fr
  show am_l1 _
  exact am_l1_c _
theorem ln_th (e : Nat) : am_lin (im_th e) := by
  intro fr
  show am_l1 _
  exact am_l1_c _
theorem ln_vI (f n : Nat) (F : am_C) : am_lin (im_vI f n F) := by
  intro fr
  show am_l1 _
  unfold im_vI
  rcases fr.2.2.1.drop n with _ | ⟨x | x | x, r⟩ <;> first | exact am_l1_c _ | exact am_l1_g _ (am_l1_gr _ _ (am_l1_bI (fun _ _ => am_l1_k _)))
theorem ln_vV (f n : Nat) (F : am_C) : am_lin (im_vV f n F) := by
  intro fr
  show am_l1 _
  unfold im_vV
  rcases fr.2.2.1.drop n with _ | ⟨x | x | x, r⟩ <;> first | exact am_l1_c _ | exact am_l1_g _ (am_l1_gr _ _ (am_l1_bV (fun _ => am_l1_k _)))
theorem ln_vA (h : Nat) (f n : Nat) (F : am_C) : am_lin (im_vA h f n F) := by
  intro fr
  show am_l1 _
  unfold im_vA
  rcases fr.2.2.1.drop n with _ | ⟨x | x | x, r⟩ <;> first | exact am_l1_c _ | exact am_l1_g _ (am_l1_gr _ _ (am_l1_bA (fun _ _ => am_l1_k _)))
theorem ln_sI (n : Nat) (F : am_C) : am_lin (im_sI n F) := by
  intro fr
  show am_l1 _
  exact am_l1_g _ (am_l1_bI (fun _ _ => am_l1_k _))
end
section
/-! soundness: what the abstract machine does, the machine does -/
def am_TB : List Cond := lw_tbl.filter goodWord
theorem am_tb {w : Cond} (i : Nat) (h : lw_tbl[i]? = some w) (hg : goodWord w = true) : w ∈ am_TB := List.mem_filter.mpr ⟨List.mem_of_getElem? h, hg⟩
theorem am_tb_warm {args : Array Value} {s : State} (hts : ∀ w ∈ am_TB, w.before args s = true) : ∀ w ∈ am_TB, ∀ (a' : Array Value) (U : State), s.WarmedH U.vm → w.before a' U = true :=
  fun w hw _ _ hW => word_at hW (good_of_word (List.mem_filter.mp hw).2) (hts w hw)
abbrev am_ty (cy : Nat → ClassId) : List (ClassId × FieldType) := [(cy 0, .int), (cy 1, .boolean), (cy 2, .object "SheetKernel$Sheet"), (cy 3, .object "SheetKernel$Task"), (cy 4, .long)]
def am_en (n : Nat) : String := match n with
  | 1 => "java/lang/IndexOutOfBoundsException"
  | 2 => "java/lang/IllegalArgumentException"
  | 3 => "java/lang/IllegalStateException"
  | _ => "java/lang/UnsupportedOperationException"
def am_exC : List String := ["java/lang/IndexOutOfBoundsException", "java/lang/IllegalArgumentException", "java/lang/IllegalStateException", "java/lang/UnsupportedOperationException"]
def am_exD : List String := ["java/lang/RuntimeException", "java/lang/Exception", "java/lang/Throwable"]
def am_sts : List (Nat × String) := [(50, "all processes live"), (255, "no such process lives"), (257, "no such page"), (261, "no such count"), (71, "no such kind"), (263, "no such pages"), (265, "a page is mapped"), (267, "a page is not mapped"), (269, "a page is not shared"), (93, "a sheet would have too many mappings"), (110, "there is no new process"), (259, "no such word"), (355, "the touch is refused"), (359, "the process ended"), (140, "no such number of steps"), (157, "no such slot"), (160, "no such how")]
/-- words that the tables hold, but which aren't among the good ones -/
def am_xt (U : State) : Prop := (∀ E ∈ am_exC, va_Nw (.castable E E) U) ∧ (∀ E ∈ am_exD, va_Nw (.declares ⟨E, "<init>", "(Ljava/lang/String;)V"⟩) U) ∧ ∀ q ∈ am_sts, ∃ a, vk_R "SheetKernel" q.1 q.2 a U
theorem am_xt.warm {s U : State} (hW : s.WarmedH U.vm) (h : am_xt s) : am_xt U :=
  ⟨fun E hE => (h.1 E hE).warmC hW, fun E hE => (h.2.1 E hE).warmD hW, fun q hq => by obtain ⟨a, ha⟩ := h.2.2 q hq; exact ⟨a, ha.warm hW⟩⟩
theorem am_xt.same {u U : State} (hv : u.vm = U.vm) (h : am_xt u) : am_xt U :=
  ⟨fun E hE => (h.1 E hE).same rfl hv, fun E hE => (h.2.1 E hE).same rfl hv, fun q hq => by obtain ⟨a, ha⟩ := h.2.2 q hq; exact ⟨a, ha.same hv.symm⟩⟩
def am_Z (o : Nat) (U : State) (H : Heap) : Prop := vx_Zq Bundle.tN "UNASSIGNED_STACK" Bundle.steD (am_A o) U H ∧ vx_Zq Bundle.tN "SUPPRESSED_SENTINEL" Bundle.listD (am_A o) U H
def am_W (D : va_G) (cy : Nat → ClassId) (o : Nat) (g : am_S) (U : State) (H : Heap) : Prop := va_K D vwCl (am_ty cy) U ∧ am_xt U ∧ am_Z o U H ∧ va_P D vwCl (am_wl o cy g) H
def am_Pc (D : va_G) (cy : Nat → ClassId) (o : Nat) (as : List am_v) (g : am_S) : Array Value → State → Prop := va_Pc (as.map (am_cv o)) (fun U => am_W D cy o g U U.heap)
def am_Qc (D : va_G) (cy : Nat → ClassId) (o : Nat) (r : am_O) (g : am_S) : Array Value → State → Outcome → State → Prop := fun _ st oc t =>
  (∃ v, r = .inl v ∧ oc = .returned (v.map (am_cv o))) ∧ va_P D vwCl (am_wl o cy g) t.heap ∧ va_F (am_A o) st t ∧ t.heap.size = st.heap.size
def am_Xc (D : va_G) (cy : Nat → ClassId) (o : Nat) (r : am_O) (g : am_S) : String → State → State → Prop := fun E st t =>
  (∃ n, r = .inr n ∧ E = am_en n) ∧ va_P D vwCl (am_wl o cy g) t.heap ∧ va_F (am_A o) st t
/-- a method's contract: where its abstract run ends, the method ends so -/
def am_Ct (l : Launch) (y : MethodName) (bytes : ByteArray) (maxL : Nat) (ret : Option FieldType) (rm : Room) (F : am_C) : Prop :=
  ∀ (D : va_G) (cy : Nat → ClassId) (o : Nat) (as : List am_v) (g g' : am_S) (r : am_O), F as g = some (r, g') → vx_Met l y (Cond.code y bytes maxL ret :: am_TB) rm (am_Pc D cy o as g) (am_Qc D cy o r g') (am_Xc D cy o r g') 1 6 (am_A o)
/-- the locals that are known -/
def am_ll (o : Nat) : Nat → List (Option am_v) → List (Nat × Value)
  | _, [] => []
  | i, some (.inl x) :: r => (i, am_cv o (.inl x)) :: am_ll o (i + 1) r
  | i, some (.inr (.inr q)) :: r => (i, am_cv o (.inr (.inr q))) :: am_ll o (i + 1) r
  | i, _ :: r => am_ll o (i + 1) r
def am_c1 (v : am_v) : Prop := ∀ x, v ≠ .inr (.inl x)
theorem am_ll_cons {o i : Nat} {v : am_v} (hv : am_c1 v) {r : List (Option am_v)} : am_ll o i (some v :: r) = (i, am_cv o v) :: am_ll o (i + 1) r := by
  rcases v with x | x | q
  · rfl
  · exact absurd rfl (hv x)
  · rfl
theorem am_ll_get {o : Nat} {v : am_v} (hv : am_c1 v) : ∀ (L : List (Option am_v)) (k i : Nat), L[i]? = some (some v) → (k + i, am_cv o v) ∈ am_ll o k L := by
  intro L
  induction L with
  | nil => intro k i h; simp at h
  | cons a r ih =>
    intro k i h
    cases i with
    | zero =>
      have e : a = some v := by simpa using h
      subst e
      rw [am_ll_cons hv]
      exact List.mem_cons_self
    | succ i =>
      have h2 := ih (k + 1) i (by simpa using h)
      have e : k + 1 + i = k + (i + 1) := by omega
      rw [e] at h2
      rcases a with _ | x | x | q
      · exact h2
      · exact List.mem_cons_of_mem _ h2
      · exact h2
      · exact List.mem_cons_of_mem _ h2
theorem am_ll_mem {o : Nat} : ∀ (L : List (Option am_v)) (k : Nat) (q : Nat × Value), q ∈ am_ll o k L → ∃ (i : Nat) (v : am_v), q = (k + i, am_cv o v) ∧ L[i]? = some (some v) ∧ am_c1 v := by
  intro L
  induction L with
  | nil => intro k q h; cases h
  | cons a r ih =>
    intro k q h
    have go : q ∈ am_ll o (k + 1) r → ∃ (i : Nat) (v : am_v), q = (k + i, am_cv o v) ∧ (a :: r)[i]? = some (some v) ∧ am_c1 v := fun h => by
      obtain ⟨i, v, e1, e2, e3⟩ := ih (k + 1) q h
      exact ⟨i + 1, v, by rw [e1, show k + 1 + i = k + (i + 1) by omega], by simpa using e2, e3⟩
    rcases a with _ | x | x | z
    · exact go h
    · rcases List.mem_cons.mp h with h | h
      · exact ⟨0, .inl x, h, rfl, fun y e => by cases e⟩
      · exact go h
    · exact go h
    · rcases List.mem_cons.mp h with h | h
      · exact ⟨0, .inr (.inr z), h, rfl, fun y e => by cases e⟩
      · exact go h
theorem am_cat (o : Nat) {v : am_v} (hv : am_c1 v) : (am_cv o v).category = 1 := by
  rcases v with x | x | q
  · rfl
  · exact absurd rfl (hv x)
  · show (va_rf _).category = 1
    cases am_rf o q.1 q.2 <;> rfl
theorem am_lo_get {o nL : Nat} {ls : Array Slot} {L : List (Option am_v)} {i : Nat} {v : am_v} (hv : am_c1 v) (hl : lv_has ls nL (am_ll o 0 L)) (h : L[i]? = some (some v)) : ls[i]? = some (.val (am_cv o v)) := by
  have := hl.2.2 _ (am_ll_get (o := o) hv L 0 i h)
  rwa [Nat.zero_add] at this
theorem am_lo_set {o nL : Nat} {ls' : Array Slot} {L : List (Option am_v)} {i : Nat} {v : am_v} (hi : i < L.length) (h : lv_has ls' nL ((i, am_cv o v) :: (am_ll o 0 L).filter (fun q => !(q.1 == i) && !(q.1 + 1 == i && q.2.category == 2)))) : lv_has ls' nL (am_ll o 0 (L.set i (some v))) := by
  refine ⟨h.1, h.2.1, fun q hq => h.2.2 q ?_⟩
  obtain ⟨j, w, e1, e2, e3⟩ := am_ll_mem _ _ _ hq
  rw [Nat.zero_add] at e1
  by_cases hj : j = i
  · subst hj
    rw [List.getElem?_set_self hi] at e2
    cases e2
    rw [e1]
    exact List.mem_cons_self
  · rw [List.getElem?_set_ne (Ne.symm hj)] at e2
    refine List.mem_cons_of_mem _ (List.mem_filter.mpr ⟨?_, ?_⟩)
    · have := am_ll_get (o := o) e3 L 0 j e2
      rw [Nat.zero_add] at this
      rw [e1]; exact this
    · have hc := am_cat o e3
      rw [e1]
      simp [hj, hc]
section AMS
variable {p : Program} {l : Launch} {e : Env} {R : Room} {s : State} {m : MethodId} {args : Array Value} {below : List Frame} {meth : Method} {c : Code}
variable {D : va_G} {cy : Nat → ClassId} {o : Nat} {cc : ByteArray} {nL : Nat} {own : String} {rt : Option FieldType}
def am_X (p : Program) (l : Launch) (R : Room) (s : State) (m : MethodId) (args : Array Value) (meth : Method) (c : Code) (D : va_G) (cy : Nat → ClassId) (o : Nat) (cc : ByteArray) (nL : Nat) (own : String) (rt : Option FieldType) : Prop :=
  p.tables.exec = Jvm.exec ∧ c.code = cc ∧ c.maxLocals = nL ∧ meth.sig.returnType = rt ∧ meth.locks = false ∧ (∀ x ∈ c.exceptionTable.toList, False) ∧ s.vm.findClass own = some m.cls ∧ (∀ w ∈ am_TB, w.before args s = true) ∧
  va_K D vwCl (am_ty cy) s ∧ am_xt s ∧ am_Z o s s.heap ∧ l.stackTraces = false ∧ R.cells = 1 ∧ R.slots = 6
def am_G (p : Program) (l : Launch) (e : Env) (R : Room) (s : State) (m : MethodId) (args : Array Value) (below : List Frame) (meth : Method) (c : Code) (D : va_G) (cy : Nat → ClassId) (o nL : Nat) (res : am_O × am_S) (fr : am_F) : Prop :=
  ∀ (H : Heap) (locs : List Loc) (ls : Array Slot), va_P D vwCl (am_wl o cy fr.2.2.2) H → va_S (am_A o) s.heap H locs → lv_has ls nL (am_ll o 0 fr.2.1) →
    W p l e R s m args below meth c H locs 0 0 (vx_MQ below (am_Qc D cy o res.1 res.2) (am_Xc D cy o res.1 res.2) args s 1 6 (am_A o)) (F0 m fr.1 ls (fr.2.2.1.map (am_cv o)))
def am_OK (p : Program) (l : Launch) (e : Env) (R : Room) (s : State) (m : MethodId) (args : Array Value) (below : List Frame) (meth : Method) (c : Code) (D : va_G) (cy : Nat → ClassId) (o nL : Nat) (pc : Nat) (f : am_I) : Prop :=
  ∀ (L : List (Option am_v)) (st : List am_v) (g : am_S) (k : am_F → am_R) (res : am_O × am_S), f (pc, L, st, g) k = some res → (∀ fr', k fr' = some res → am_G p l e R s m args below meth c D cy o nL res fr') → am_G p l e R s m args below meth c D cy o nL res (pc, L, st, g)
theorem am_sound {T : List (Nat × am_I)} (hT : ∀ q ∈ T, am_OK p l e R s m args below meth c D cy o nL q.1 q.2) : ∀ (n : Nat) (fr : am_F) (res : am_O × am_S), am_run T n fr = some res → am_G p l e R s m args below meth c D cy o nL res fr := by
  intro n
  induction n with
  | zero => intro fr res h; cases h
  | succ n ih =>
    intro fr res h
    unfold am_run at h
    cases hf : am_lk fr.1 T with
    | none => rw [hf] at h; cases h
    | some f =>
      rw [hf] at h
      obtain ⟨pc, L, st, g⟩ := fr
      exact hT (pc, f) (am_lk_mem hf) L st g _ res h (fun fr' h' => ih fr' res h')
theorem am_tight {T : State} {locs : List Loc} {k n : Nat} (X : Stand p l e R s m args below meth c T locs k n) (hz : T.heap.size = s.heap.size) : Stand p l e R s m args below meth c T locs 0 0 := by
  refine { X with same := ?_ }
  obtain ⟨h1, h2, h3, h4, h5, h6⟩ := X.same
  have e : ((T.setVm s.vm).heap.toList.drop s.heap.size) = [] := List.drop_eq_nil_of_le (by show T.heap.toList.length ≤ _; rw [Array.length_toList, hz]; exact Nat.le_refl _)
  refine ⟨h1, h2, by show T.heap.size ≤ _; omega, h4, by rw [e]; exact Nat.le_refl _, h6⟩

theorem am_cv_ref {o f a : Nat} {x : Int32} (h : am_rf o f x = some a) : am_cv o (.inr (.inr (f, x))) = .ref a := by show va_rf (am_rf o f x) = _; rw [h]; rfl
theorem am_cv_null {o f : Nat} {x : Int32} (h : am_rf o f x = none) : am_cv o (.inr (.inr (f, x))) = .null := by show va_rf (am_rf o f x) = _; rw [h]; rfl
theorem am_c1i (x : Int32) : am_c1 (.inl x) := fun _ e => by cases e
theorem am_c1r (q : Nat × Int32) : am_c1 (.inr (.inr q)) := fun _ e => by cases e
theorem am_lLen {L : List (Option am_v)} {i : Nat} {z : Option am_v} (h : L[i]? = some z) : i < L.length := (List.getElem?_eq_some_iff.mp h).1
theorem ok_iln (hX : am_X p l R s m args meth c D cy o cc nL own rt) {pc : Nat} {k : Fin 4} {i : Nat} (hd : decode cc pc = .ok (.iload_n k, 1)) (hi : (k : Nat) = i) : am_OK p l e R s m args below meth c D cy o nL pc (im_il i 1) := by
  obtain ⟨hx, hb, hml, hr, hlocks, htab, hown, hts, hK, hxt, hZ, hl0, hRc, hRs⟩ := id hX
  intro L st g k res h hk H locs ls hP hS hl
  dsimp only [im_il] at h
  rcases hL : L[i]? with _ | _ | x | x | q <;> rw [hL] at h <;> try (cases h; done)
  exact lv_iload_n hx hb hd hi (am_lo_get (am_c1i x) hl hL) (hk _ h H locs ls hP hS hl)
theorem ok_il (hX : am_X p l R s m args meth c D cy o cc nL own rt) {pc : Nat} {i : Nat} (hd : decode cc pc = .ok (.iload i, 2)) : am_OK p l e R s m args below meth c D cy o nL pc (im_il i 2) := by
  obtain ⟨hx, hb, hml, hr, hlocks, htab, hown, hts, hK, hxt, hZ, hl0, hRc, hRs⟩ := id hX
  intro L st g k res h hk H locs ls hP hS hl
  dsimp only [im_il] at h
  rcases hL : L[i]? with _ | _ | x | x | q <;> rw [hL] at h <;> try (cases h; done)
  exact lv_iload hx hb hd (am_lo_get (am_c1i x) hl hL) (hk _ h H locs ls hP hS hl)
theorem ok_aln (hX : am_X p l R s m args meth c D cy o cc nL own rt) {pc : Nat} {k : Fin 4} {i : Nat} (hd : decode cc pc = .ok (.aload_n k, 1)) (hi : (k : Nat) = i) : am_OK p l e R s m args below meth c D cy o nL pc (im_al i 1) := by
  obtain ⟨hx, hb, hml, hr, hlocks, htab, hown, hts, hK, hxt, hZ, hl0, hRc, hRs⟩ := id hX
  intro L st g k res h hk H locs ls hP hS hl
  dsimp only [im_al] at h
  rcases hL : L[i]? with _ | _ | x | x | q <;> rw [hL] at h <;> try (cases h; done)
  have h1 := am_lo_get (am_c1r q) hl hL
  have h2 := hk _ h H locs ls hP hS hl
  rw [show (pc, L, (.inr (.inr q) :: st : List am_v), g).2.2.1.map (am_cv o) = am_cv o (.inr (.inr q)) :: st.map (am_cv o) from rfl] at h2
  cases hq : am_rf o q.1 q.2 with
  | none =>
    rw [show am_cv o (.inr (.inr q)) = .null from am_cv_null hq] at h1 h2
    exact lv_aload_nN hx hb hd hi h1 h2
  | some a =>
    rw [show am_cv o (.inr (.inr q)) = .ref a from am_cv_ref hq] at h1 h2
    exact lv_aload_n hx hb hd hi h1 h2
theorem ok_al (hX : am_X p l R s m args meth c D cy o cc nL own rt) {pc : Nat} {i : Nat} (hd : decode cc pc = .ok (.aload i, 2)) : am_OK p l e R s m args below meth c D cy o nL pc (im_al i 2) := by
  obtain ⟨hx, hb, hml, hr, hlocks, htab, hown, hts, hK, hxt, hZ, hl0, hRc, hRs⟩ := id hX
  intro L st g k res h hk H locs ls hP hS hl
  dsimp only [im_al] at h
  rcases hL : L[i]? with _ | _ | x | x | q <;> rw [hL] at h <;> try (cases h; done)
  have h1 := am_lo_get (am_c1r q) hl hL
  have h2 := hk _ h H locs ls hP hS hl
  rw [show (pc, L, (.inr (.inr q) :: st : List am_v), g).2.2.1.map (am_cv o) = am_cv o (.inr (.inr q)) :: st.map (am_cv o) from rfl] at h2
  cases hq : am_rf o q.1 q.2 with
  | none =>
    rw [show am_cv o (.inr (.inr q)) = .null from am_cv_null hq] at h1 h2
    exact lv_aloadN hx hb hd h1 h2
  | some a =>
    rw [show am_cv o (.inr (.inr q)) = .ref a from am_cv_ref hq] at h1 h2
    exact lv_aload hx hb hd h1 h2
theorem ok_isn (hX : am_X p l R s m args meth c D cy o cc nL own rt) {pc : Nat} {k : Fin 4} {i : Nat} (hd : decode cc pc = .ok (.istore_n k, 1)) (hi : (k : Nat) = i) (hn : i < nL) : am_OK p l e R s m args below meth c D cy o nL pc (im_is i 1) := by
  obtain ⟨hx, hb, hml, hr, hlocks, htab, hown, hts, hK, hxt, hZ, hl0, hRc, hRs⟩ := id hX
  intro L st g k res h hk H locs ls hP hS hl
  dsimp only [im_is] at h
  rcases st with _ | ⟨x | x | q, r⟩ <;> try (cases h; done)
  dsimp only at h
  rcases hL : L[i]? with _ | z <;> rw [hL] at h <;> try (cases h; done)
  exact lv_istore_n hx hb hd hi hl hn rfl (fun ls' hl' => hk _ h H locs ls' hP hS (am_lo_set (am_lLen hL) hl'))
theorem ok_is (hX : am_X p l R s m args meth c D cy o cc nL own rt) {pc : Nat} {i : Nat} (hd : decode cc pc = .ok (.istore i, 2)) (hn : i < nL) : am_OK p l e R s m args below meth c D cy o nL pc (im_is i 2) := by
  obtain ⟨hx, hb, hml, hr, hlocks, htab, hown, hts, hK, hxt, hZ, hl0, hRc, hRs⟩ := id hX
  intro L st g k res h hk H locs ls hP hS hl
  dsimp only [im_is] at h
  rcases st with _ | ⟨x | x | q, r⟩ <;> try (cases h; done)
  dsimp only at h
  rcases hL : L[i]? with _ | z <;> rw [hL] at h <;> try (cases h; done)
  exact lv_istore hx hb hd hl hn rfl (fun ls' hl' => hk _ h H locs ls' hP hS (am_lo_set (am_lLen hL) hl'))
theorem ok_asn (hX : am_X p l R s m args meth c D cy o cc nL own rt) {pc : Nat} {k : Fin 4} {i : Nat} (hd : decode cc pc = .ok (.astore_n k, 1)) (hi : (k : Nat) = i) (hn : i < nL) : am_OK p l e R s m args below meth c D cy o nL pc (im_as i 1) := by
  obtain ⟨hx, hb, hml, hr, hlocks, htab, hown, hts, hK, hxt, hZ, hl0, hRc, hRs⟩ := id hX
  intro L st g k res h hk H locs ls hP hS hl
  dsimp only [im_as] at h
  rcases st with _ | ⟨x | x | q, r⟩ <;> try (cases h; done)
  dsimp only at h
  rcases hL : L[i]? with _ | z <;> rw [hL] at h <;> try (cases h; done)
  have go : ∀ ls' : Array Slot, lv_has ls' nL ((i, am_cv o (.inr (.inr q))) :: (am_ll o 0 L).filter (fun q => !(q.1 == i) && !(q.1 + 1 == i && q.2.category == 2))) → _ := fun ls' hl' => hk _ h H locs ls' hP hS (am_lo_set (am_lLen hL) hl')
  show W p l e R s m args below meth c H locs 0 0 _ (F0 m pc ls (am_cv o (.inr (.inr q)) :: r.map (am_cv o)))
  cases hq : am_rf o q.1 q.2 with
  | none =>
    rw [show am_cv o (.inr (.inr q)) = .null from am_cv_null hq] at go ⊢
    exact lv_astore_nN hx hb hd hi hl hn rfl go
  | some a =>
    rw [show am_cv o (.inr (.inr q)) = .ref a from am_cv_ref hq] at go ⊢
    exact lv_astore_n hx hb hd hi hl hn rfl go
theorem ok_as (hX : am_X p l R s m args meth c D cy o cc nL own rt) {pc : Nat} {i : Nat} (hd : decode cc pc = .ok (.astore i, 2)) (hn : i < nL) : am_OK p l e R s m args below meth c D cy o nL pc (im_as i 2) := by
  obtain ⟨hx, hb, hml, hr, hlocks, htab, hown, hts, hK, hxt, hZ, hl0, hRc, hRs⟩ := id hX
  intro L st g k res h hk H locs ls hP hS hl
  dsimp only [im_as] at h
  rcases st with _ | ⟨x | x | q, r⟩ <;> try (cases h; done)
  dsimp only at h
  rcases hL : L[i]? with _ | z <;> rw [hL] at h <;> try (cases h; done)
  have go : ∀ ls' : Array Slot, lv_has ls' nL ((i, am_cv o (.inr (.inr q))) :: (am_ll o 0 L).filter (fun q => !(q.1 == i) && !(q.1 + 1 == i && q.2.category == 2))) → _ := fun ls' hl' => hk _ h H locs ls' hP hS (am_lo_set (am_lLen hL) hl')
  show W p l e R s m args below meth c H locs 0 0 _ (F0 m pc ls (am_cv o (.inr (.inr q)) :: r.map (am_cv o)))
  cases hq : am_rf o q.1 q.2 with
  | none =>
    rw [show am_cv o (.inr (.inr q)) = .null from am_cv_null hq] at go ⊢
    exact lv_astoreN hx hb hd hl hn rfl go
  | some a =>
    rw [show am_cv o (.inr (.inr q)) = .ref a from am_cv_ref hq] at go ⊢
    exact lv_astore hx hb hd hl hn rfl go
theorem ok_ic (hX : am_X p l R s m args meth c D cy o cc nL own rt) {pc : Nat} {n : Int} {v : Int32} (hd : decode cc pc = .ok (.iconst n, 1)) (hv : Int32.ofInt n = v) : am_OK p l e R s m args below meth c D cy o nL pc (im_ic v 1) := by
  obtain ⟨hx, hb, hml, hr, hlocks, htab, hown, hts, hK, hxt, hZ, hl0, hRc, hRs⟩ := id hX
  intro L st g k res h hk H locs ls hP hS hl
  exact lv_iconst hx hb hd hv (hk _ h H locs ls hP hS hl)
theorem ok_bi (hX : am_X p l R s m args meth c D cy o cc nL own rt) {pc : Nat} {n : Int} {v : Int32} (hd : decode cc pc = .ok (.bipush n, 2)) (hv : (Int8.ofInt n).toInt32 = v) : am_OK p l e R s m args below meth c D cy o nL pc (im_ic v 2) := by
  obtain ⟨hx, hb, hml, hr, hlocks, htab, hown, hts, hK, hxt, hZ, hl0, hRc, hRs⟩ := id hX
  intro L st g k res h hk H locs ls hP hS hl
  exact lv_bipush hx hb hd hv (hk _ h H locs ls hP hS hl)
theorem ok_si (hX : am_X p l R s m args meth c D cy o cc nL own rt) {pc : Nat} {n : Int} {v : Int32} (hd : decode cc pc = .ok (.sipush n, 3)) (hv : (Int16.ofInt n).toInt32 = v) : am_OK p l e R s m args below meth c D cy o nL pc (im_ic v 3) := by
  obtain ⟨hx, hb, hml, hr, hlocks, htab, hown, hts, hK, hxt, hZ, hl0, hRc, hRs⟩ := id hX
  intro L st g k res h hk H locs ls hP hS hl
  exact lv_sipush hx hb hd hv (hk _ h H locs ls hP hS hl)
theorem ok_nl (hX : am_X p l R s m args meth c D cy o cc nL own rt) {pc : Nat} (hd : decode cc pc = .ok (.aconst_null, 1)) : am_OK p l e R s m args below meth c D cy o nL pc (im_nl) := by
  obtain ⟨hx, hb, hml, hr, hlocks, htab, hown, hts, hK, hxt, hZ, hl0, hRc, hRs⟩ := id hX
  intro L st g k res h hk H locs ls hP hS hl
  have h2 := hk _ h H locs ls hP hS hl
  exact lv_null hx hb hd h2
theorem ok_in (hX : am_X p l R s m args meth c D cy o cc nL own rt) {pc : Nat} {i : Nat} {n : Int} {d : Int32} (hd : decode cc pc = .ok (.iinc i n, 3)) (hv : Int32.ofInt n = d) (hn : i < nL) : am_OK p l e R s m args below meth c D cy o nL pc (im_in i d) := by
  obtain ⟨hx, hb, hml, hr, hlocks, htab, hown, hts, hK, hxt, hZ, hl0, hRc, hRs⟩ := id hX
  intro L st g k res h hk H locs ls hP hS hl
  dsimp only [im_in] at h
  rcases hL : L[i]? with _ | _ | x | x | q <;> rw [hL] at h <;> try (cases h; done)
  have hm := am_ll_get (o := o) (am_c1i x) L 0 i hL
  rw [Nat.zero_add] at hm
  obtain ⟨k1, hk1⟩ := List.getElem?_of_mem hm
  exact lv_iinc (v := x + d) hx hb hd hl hk1 (by rw [hv]) hn rfl (fun ls' hl' => hk _ h H locs ls' hP hS (am_lo_set (v := .inl (x + d)) (am_lLen hL) hl'))
theorem ok_go (hX : am_X p l R s m args meth c D cy o cc nL own rt) {pc : Nat} {off : Int} {t : Nat} (hd : decode cc pc = .ok (.goto off, 3)) (ht : (pc : Int) + off = (t : Int)) : am_OK p l e R s m args below meth c D cy o nL pc (im_go t) := by
  obtain ⟨hx, hb, hml, hr, hlocks, htab, hown, hts, hK, hxt, hZ, hl0, hRc, hRs⟩ := id hX
  intro L st g k res h hk H locs ls hP hS hl
  exact lv_goto hx hb hd ht (hk _ h H locs ls hP hS hl)
theorem ok_du (hX : am_X p l R s m args meth c D cy o cc nL own rt) {pc : Nat} (hd : decode cc pc = .ok (.dup, 1)) : am_OK p l e R s m args below meth c D cy o nL pc (im_du) := by
  obtain ⟨hx, hb, hml, hr, hlocks, htab, hown, hts, hK, hxt, hZ, hl0, hRc, hRs⟩ := id hX
  intro L st g k res h hk H locs ls hP hS hl
  dsimp only [im_du] at h
  rcases st with _ | ⟨x | x | q, r⟩ <;> try (cases h; done)
  · exact lv_dup hx hb hd rfl (hk _ h H locs ls hP hS hl)
  · exact lv_dup hx hb hd (am_cat o (am_c1r q)) (hk _ h H locs ls hP hS hl)
theorem ok_d2 (hX : am_X p l R s m args meth c D cy o cc nL own rt) {pc : Nat} (hd : decode cc pc = .ok (.dup2, 1)) : am_OK p l e R s m args below meth c D cy o nL pc (im_d2) := by
  obtain ⟨hx, hb, hml, hr, hlocks, htab, hown, hts, hK, hxt, hZ, hl0, hRc, hRs⟩ := id hX
  intro L st g k res h hk H locs ls hP hS hl
  dsimp only [im_d2] at h
  rcases st with _ | ⟨y | y | q', _ | ⟨x | x | q, r⟩⟩ <;> try (cases h; done)
  exact lv_dup2_11 hx hb hd rfl (am_cat o (am_c1r q)) (hk _ h H locs ls hP hS hl)
theorem ok_i2s (hX : am_X p l R s m args meth c D cy o cc nL own rt) {pc : Nat} (hd : decode cc pc = .ok (.i2s, 1)) : am_OK p l e R s m args below meth c D cy o nL pc (im_i2s) := by
  obtain ⟨hx, hb, hml, hr, hlocks, htab, hown, hts, hK, hxt, hZ, hl0, hRc, hRs⟩ := id hX
  intro L st g k res h hk H locs ls hP hS hl
  dsimp only [im_i2s] at h
  rcases st with _ | ⟨x | x | q, r⟩ <;> try (cases h; done)
  exact lv_i2s hx hb hd rfl (hk _ h H locs ls hP hS hl)
theorem ok_i2l (hX : am_X p l R s m args meth c D cy o cc nL own rt) {pc : Nat} (hd : decode cc pc = .ok (.i2l, 1)) : am_OK p l e R s m args below meth c D cy o nL pc (im_i2l) := by
  obtain ⟨hx, hb, hml, hr, hlocks, htab, hown, hts, hK, hxt, hZ, hl0, hRc, hRs⟩ := id hX
  intro L st g k res h hk H locs ls hP hS hl
  dsimp only [im_i2l] at h
  rcases st with _ | ⟨x | x | q, r⟩ <;> try (cases h; done)
  exact lv_i2l hx hb hd rfl (hk _ h H locs ls hP hS hl)
theorem ok_add (hX : am_X p l R s m args meth c D cy o cc nL own rt) {pc : Nat} (hd : decode cc pc = .ok (.iadd, 1)) : am_OK p l e R s m args below meth c D cy o nL pc (im_add) := by
  obtain ⟨hx, hb, hml, hr, hlocks, htab, hown, hts, hK, hxt, hZ, hl0, hRc, hRs⟩ := id hX
  intro L st g k res h hk H locs ls hP hS hl
  dsimp only [im_add] at h
  rcases st with _ | ⟨y | y | q', _ | ⟨x | x | q, r⟩⟩ <;> try (cases h; done)
  exact lv_iadd hx hb hd (hk _ h H locs ls hP hS hl)
theorem ok_sub (hX : am_X p l R s m args meth c D cy o cc nL own rt) {pc : Nat} (hd : decode cc pc = .ok (.isub, 1)) : am_OK p l e R s m args below meth c D cy o nL pc (im_sub) := by
  obtain ⟨hx, hb, hml, hr, hlocks, htab, hown, hts, hK, hxt, hZ, hl0, hRc, hRs⟩ := id hX
  intro L st g k res h hk H locs ls hP hS hl
  dsimp only [im_sub] at h
  rcases st with _ | ⟨y | y | q', _ | ⟨x | x | q, r⟩⟩ <;> try (cases h; done)
  exact lv_isub hx hb hd (hk _ h H locs ls hP hS hl)
theorem ok_mul (hX : am_X p l R s m args meth c D cy o cc nL own rt) {pc : Nat} (hd : decode cc pc = .ok (.imul, 1)) : am_OK p l e R s m args below meth c D cy o nL pc (im_mul) := by
  obtain ⟨hx, hb, hml, hr, hlocks, htab, hown, hts, hK, hxt, hZ, hl0, hRc, hRs⟩ := id hX
  intro L st g k res h hk H locs ls hP hS hl
  dsimp only [im_mul] at h
  rcases st with _ | ⟨y | y | q', _ | ⟨x | x | q, r⟩⟩ <;> try (cases h; done)
  exact lv_imul hx hb hd (hk _ h H locs ls hP hS hl)
theorem ok_and (hX : am_X p l R s m args meth c D cy o cc nL own rt) {pc : Nat} (hd : decode cc pc = .ok (.iand, 1)) : am_OK p l e R s m args below meth c D cy o nL pc (im_and) := by
  obtain ⟨hx, hb, hml, hr, hlocks, htab, hown, hts, hK, hxt, hZ, hl0, hRc, hRs⟩ := id hX
  intro L st g k res h hk H locs ls hP hS hl
  dsimp only [im_and] at h
  rcases st with _ | ⟨y | y | q', _ | ⟨x | x | q, r⟩⟩ <;> try (cases h; done)
  exact lv_iand hx hb hd (hk _ h H locs ls hP hS hl)
theorem ok_shr (hX : am_X p l R s m args meth c D cy o cc nL own rt) {pc : Nat} (hd : decode cc pc = .ok (.ishr, 1)) : am_OK p l e R s m args below meth c D cy o nL pc (im_shr) := by
  obtain ⟨hx, hb, hml, hr, hlocks, htab, hown, hts, hK, hxt, hZ, hl0, hRc, hRs⟩ := id hX
  intro L st g k res h hk H locs ls hP hS hl
  dsimp only [im_shr] at h
  rcases st with _ | ⟨y | y | q', _ | ⟨x | x | q, r⟩⟩ <;> try (cases h; done)
  exact lv_ishr hx hb hd (hk _ h H locs ls hP hS hl)
theorem ok_ush (hX : am_X p l R s m args meth c D cy o cc nL own rt) {pc : Nat} (hd : decode cc pc = .ok (.iushr, 1)) : am_OK p l e R s m args below meth c D cy o nL pc (im_ush) := by
  obtain ⟨hx, hb, hml, hr, hlocks, htab, hown, hts, hK, hxt, hZ, hl0, hRc, hRs⟩ := id hX
  intro L st g k res h hk H locs ls hP hS hl
  dsimp only [im_ush] at h
  rcases st with _ | ⟨y | y | q', _ | ⟨x | x | q, r⟩⟩ <;> try (cases h; done)
  exact lv_iushr hx hb hd rfl (hk _ h H locs ls hP hS hl)
theorem ok_div (hX : am_X p l R s m args meth c D cy o cc nL own rt) {pc : Nat} (hd : decode cc pc = .ok (.idiv, 1)) : am_OK p l e R s m args below meth c D cy o nL pc (im_div) := by
  obtain ⟨hx, hb, hml, hr, hlocks, htab, hown, hts, hK, hxt, hZ, hl0, hRc, hRs⟩ := id hX
  intro L st g k res h hk H locs ls hP hS hl
  dsimp only [im_div] at h
  rcases st with _ | ⟨y | y | q', _ | ⟨x | x | q, r⟩⟩ <;> try (cases h; done)
  dsimp only at h
  obtain ⟨h1, h⟩ := am_g_some h
  exact lv_idiv hx hb hd (of_decide_eq_true h1) (hk _ h H locs ls hP hS hl)
theorem ok_rem (hX : am_X p l R s m args meth c D cy o cc nL own rt) {pc : Nat} (hd : decode cc pc = .ok (.irem, 1)) : am_OK p l e R s m args below meth c D cy o nL pc (im_rem) := by
  obtain ⟨hx, hb, hml, hr, hlocks, htab, hown, hts, hK, hxt, hZ, hl0, hRc, hRs⟩ := id hX
  intro L st g k res h hk H locs ls hP hS hl
  dsimp only [im_rem] at h
  rcases st with _ | ⟨y | y | q', _ | ⟨x | x | q, r⟩⟩ <;> try (cases h; done)
  dsimp only at h
  obtain ⟨h1, h⟩ := am_g_some h
  exact lv_irem hx hb hd (of_decide_eq_true h1) (hk _ h H locs ls hP hS hl)
theorem ok_feq (hX : am_X p l R s m args meth c D cy o cc nL own rt) {pc : Nat} {off : Int} {t : Nat} (hd : decode cc pc = .ok (.ifCond .eq off, 3)) (ht : (pc : Int) + off = (t : Int)) : am_OK p l e R s m args below meth c D cy o nL pc (im_feq t) := by
  obtain ⟨hx, hb, hml, hr, hlocks, htab, hown, hts, hK, hxt, hZ, hl0, hRc, hRs⟩ := id hX
  intro L st g k res h hk H locs ls hP hS hl
  dsimp only [im_feq] at h
  rcases st with _ | ⟨x | x | q, r⟩ <;> try (cases h; done)
  dsimp only at h
  refine lv_if_eq hx hb hd ht (fun q => ?_) (fun q => ?_)
  · rw [if_pos q] at h; exact hk _ h H locs ls hP hS hl
  · rw [if_neg q] at h; exact hk _ h H locs ls hP hS hl
theorem ok_ceq (hX : am_X p l R s m args meth c D cy o cc nL own rt) {pc : Nat} {off : Int} {t : Nat} (hd : decode cc pc = .ok (.if_icmp .eq off, 3)) (ht : (pc : Int) + off = (t : Int)) : am_OK p l e R s m args below meth c D cy o nL pc (im_ceq t) := by
  obtain ⟨hx, hb, hml, hr, hlocks, htab, hown, hts, hK, hxt, hZ, hl0, hRc, hRs⟩ := id hX
  intro L st g k res h hk H locs ls hP hS hl
  dsimp only [im_ceq] at h
  rcases st with _ | ⟨y | y | q', _ | ⟨x | x | q, r⟩⟩ <;> try (cases h; done)
  dsimp only at h
  refine lv_icmp_eq hx hb hd ht (fun q => ?_) (fun q => ?_)
  · rw [if_pos q] at h; exact hk _ h H locs ls hP hS hl
  · rw [if_neg q] at h; exact hk _ h H locs ls hP hS hl
theorem ok_fne (hX : am_X p l R s m args meth c D cy o cc nL own rt) {pc : Nat} {off : Int} {t : Nat} (hd : decode cc pc = .ok (.ifCond .ne off, 3)) (ht : (pc : Int) + off = (t : Int)) : am_OK p l e R s m args below meth c D cy o nL pc (im_fne t) := by
  obtain ⟨hx, hb, hml, hr, hlocks, htab, hown, hts, hK, hxt, hZ, hl0, hRc, hRs⟩ := id hX
  intro L st g k res h hk H locs ls hP hS hl
  dsimp only [im_fne] at h
  rcases st with _ | ⟨x | x | q, r⟩ <;> try (cases h; done)
  dsimp only at h
  refine lv_if_ne hx hb hd ht (fun q => ?_) (fun q => ?_)
  · rw [if_neg q] at h; exact hk _ h H locs ls hP hS hl
  · rw [if_pos q] at h; exact hk _ h H locs ls hP hS hl
theorem ok_cne (hX : am_X p l R s m args meth c D cy o cc nL own rt) {pc : Nat} {off : Int} {t : Nat} (hd : decode cc pc = .ok (.if_icmp .ne off, 3)) (ht : (pc : Int) + off = (t : Int)) : am_OK p l e R s m args below meth c D cy o nL pc (im_cne t) := by
  obtain ⟨hx, hb, hml, hr, hlocks, htab, hown, hts, hK, hxt, hZ, hl0, hRc, hRs⟩ := id hX
  intro L st g k res h hk H locs ls hP hS hl
  dsimp only [im_cne] at h
  rcases st with _ | ⟨y | y | q', _ | ⟨x | x | q, r⟩⟩ <;> try (cases h; done)
  dsimp only at h
  refine lv_icmp_ne hx hb hd ht (fun q => ?_) (fun q => ?_)
  · rw [if_neg q] at h; exact hk _ h H locs ls hP hS hl
  · rw [if_pos q] at h; exact hk _ h H locs ls hP hS hl
theorem ok_flt (hX : am_X p l R s m args meth c D cy o cc nL own rt) {pc : Nat} {off : Int} {t : Nat} (hd : decode cc pc = .ok (.ifCond .lt off, 3)) (ht : (pc : Int) + off = (t : Int)) : am_OK p l e R s m args below meth c D cy o nL pc (im_flt t) := by
  obtain ⟨hx, hb, hml, hr, hlocks, htab, hown, hts, hK, hxt, hZ, hl0, hRc, hRs⟩ := id hX
  intro L st g k res h hk H locs ls hP hS hl
  dsimp only [im_flt] at h
  rcases st with _ | ⟨x | x | q, r⟩ <;> try (cases h; done)
  dsimp only at h
  refine lv_if_lt hx hb hd ht (fun q => ?_) (fun q => ?_)
  · rw [if_pos q] at h; exact hk _ h H locs ls hP hS hl
  · rw [if_neg q] at h; exact hk _ h H locs ls hP hS hl
theorem ok_clt (hX : am_X p l R s m args meth c D cy o cc nL own rt) {pc : Nat} {off : Int} {t : Nat} (hd : decode cc pc = .ok (.if_icmp .lt off, 3)) (ht : (pc : Int) + off = (t : Int)) : am_OK p l e R s m args below meth c D cy o nL pc (im_clt t) := by
  obtain ⟨hx, hb, hml, hr, hlocks, htab, hown, hts, hK, hxt, hZ, hl0, hRc, hRs⟩ := id hX
  intro L st g k res h hk H locs ls hP hS hl
  dsimp only [im_clt] at h
  rcases st with _ | ⟨y | y | q', _ | ⟨x | x | q, r⟩⟩ <;> try (cases h; done)
  dsimp only at h
  refine lv_icmp_lt hx hb hd ht (fun q => ?_) (fun q => ?_)
  · rw [if_pos q] at h; exact hk _ h H locs ls hP hS hl
  · rw [if_neg q] at h; exact hk _ h H locs ls hP hS hl
theorem ok_fge (hX : am_X p l R s m args meth c D cy o cc nL own rt) {pc : Nat} {off : Int} {t : Nat} (hd : decode cc pc = .ok (.ifCond .ge off, 3)) (ht : (pc : Int) + off = (t : Int)) : am_OK p l e R s m args below meth c D cy o nL pc (im_fge t) := by
  obtain ⟨hx, hb, hml, hr, hlocks, htab, hown, hts, hK, hxt, hZ, hl0, hRc, hRs⟩ := id hX
  intro L st g k res h hk H locs ls hP hS hl
  dsimp only [im_fge] at h
  rcases st with _ | ⟨x | x | q, r⟩ <;> try (cases h; done)
  dsimp only at h
  refine lv_if_ge hx hb hd ht (fun q => ?_) (fun q => ?_)
  · rw [if_pos q] at h; exact hk _ h H locs ls hP hS hl
  · rw [if_neg q] at h; exact hk _ h H locs ls hP hS hl
theorem ok_cge (hX : am_X p l R s m args meth c D cy o cc nL own rt) {pc : Nat} {off : Int} {t : Nat} (hd : decode cc pc = .ok (.if_icmp .ge off, 3)) (ht : (pc : Int) + off = (t : Int)) : am_OK p l e R s m args below meth c D cy o nL pc (im_cge t) := by
  obtain ⟨hx, hb, hml, hr, hlocks, htab, hown, hts, hK, hxt, hZ, hl0, hRc, hRs⟩ := id hX
  intro L st g k res h hk H locs ls hP hS hl
  dsimp only [im_cge] at h
  rcases st with _ | ⟨y | y | q', _ | ⟨x | x | q, r⟩⟩ <;> try (cases h; done)
  dsimp only at h
  refine lv_icmp_ge hx hb hd ht (fun q => ?_) (fun q => ?_)
  · rw [if_pos q] at h; exact hk _ h H locs ls hP hS hl
  · rw [if_neg q] at h; exact hk _ h H locs ls hP hS hl
theorem ok_fgt (hX : am_X p l R s m args meth c D cy o cc nL own rt) {pc : Nat} {off : Int} {t : Nat} (hd : decode cc pc = .ok (.ifCond .gt off, 3)) (ht : (pc : Int) + off = (t : Int)) : am_OK p l e R s m args below meth c D cy o nL pc (im_fgt t) := by
  obtain ⟨hx, hb, hml, hr, hlocks, htab, hown, hts, hK, hxt, hZ, hl0, hRc, hRs⟩ := id hX
  intro L st g k res h hk H locs ls hP hS hl
  dsimp only [im_fgt] at h
  rcases st with _ | ⟨x | x | q, r⟩ <;> try (cases h; done)
  dsimp only at h
  refine lv_if_gt hx hb hd ht (fun q => ?_) (fun q => ?_)
  · rw [if_pos q] at h; exact hk _ h H locs ls hP hS hl
  · rw [if_neg q] at h; exact hk _ h H locs ls hP hS hl
theorem ok_cgt (hX : am_X p l R s m args meth c D cy o cc nL own rt) {pc : Nat} {off : Int} {t : Nat} (hd : decode cc pc = .ok (.if_icmp .gt off, 3)) (ht : (pc : Int) + off = (t : Int)) : am_OK p l e R s m args below meth c D cy o nL pc (im_cgt t) := by
  obtain ⟨hx, hb, hml, hr, hlocks, htab, hown, hts, hK, hxt, hZ, hl0, hRc, hRs⟩ := id hX
  intro L st g k res h hk H locs ls hP hS hl
  dsimp only [im_cgt] at h
  rcases st with _ | ⟨y | y | q', _ | ⟨x | x | q, r⟩⟩ <;> try (cases h; done)
  dsimp only at h
  refine lv_icmp_gt hx hb hd ht (fun q => ?_) (fun q => ?_)
  · rw [if_pos q] at h; exact hk _ h H locs ls hP hS hl
  · rw [if_neg q] at h; exact hk _ h H locs ls hP hS hl
theorem ok_fle (hX : am_X p l R s m args meth c D cy o cc nL own rt) {pc : Nat} {off : Int} {t : Nat} (hd : decode cc pc = .ok (.ifCond .le off, 3)) (ht : (pc : Int) + off = (t : Int)) : am_OK p l e R s m args below meth c D cy o nL pc (im_fle t) := by
  obtain ⟨hx, hb, hml, hr, hlocks, htab, hown, hts, hK, hxt, hZ, hl0, hRc, hRs⟩ := id hX
  intro L st g k res h hk H locs ls hP hS hl
  dsimp only [im_fle] at h
  rcases st with _ | ⟨x | x | q, r⟩ <;> try (cases h; done)
  dsimp only at h
  refine lv_if_le hx hb hd ht (fun q => ?_) (fun q => ?_)
  · rw [if_pos q] at h; exact hk _ h H locs ls hP hS hl
  · rw [if_neg q] at h; exact hk _ h H locs ls hP hS hl
theorem ok_cle (hX : am_X p l R s m args meth c D cy o cc nL own rt) {pc : Nat} {off : Int} {t : Nat} (hd : decode cc pc = .ok (.if_icmp .le off, 3)) (ht : (pc : Int) + off = (t : Int)) : am_OK p l e R s m args below meth c D cy o nL pc (im_cle t) := by
  obtain ⟨hx, hb, hml, hr, hlocks, htab, hown, hts, hK, hxt, hZ, hl0, hRc, hRs⟩ := id hX
  intro L st g k res h hk H locs ls hP hS hl
  dsimp only [im_cle] at h
  rcases st with _ | ⟨y | y | q', _ | ⟨x | x | q, r⟩⟩ <;> try (cases h; done)
  dsimp only at h
  refine lv_icmp_le hx hb hd ht (fun q => ?_) (fun q => ?_)
  · rw [if_pos q] at h; exact hk _ h H locs ls hP hS hl
  · rw [if_neg q] at h; exact hk _ h H locs ls hP hS hl
theorem am_rf_many {o f : Nat} {x : Int32} (h : (!(Nat.beq (am_ct f) 1)) = true) : am_rf o f x = am_rO o f x := by
  unfold am_rf
  cases hb : Nat.beq (am_ct f) 1 with
  | true => rw [hb] at h; cases h
  | false => rfl
theorem ok_nu (hX : am_X p l R s m args meth c D cy o cc nL own rt) {pc : Nat} {off : Int} {t : Nat} (hd : decode cc pc = .ok (.ifnull off, 3)) (ht : (pc : Int) + off = (t : Int)) : am_OK p l e R s m args below meth c D cy o nL pc (im_nu t) := by
  obtain ⟨hx, hb, hml, hr, hlocks, htab, hown, hts, hK, hxt, hZ, hl0, hRc, hRs⟩ := id hX
  intro L st g k res h hk H locs ls hP hS hl
  dsimp only [im_nu] at h
  rcases st with _ | ⟨x | x | q, r⟩ <;> try (cases h; done)
  dsimp only at h
  obtain ⟨h1, h⟩ := am_g_some h
  show W p l e R s m args below meth c H locs 0 0 _ (F0 m pc ls (am_cv o (.inr (.inr q)) :: r.map (am_cv o)))
  by_cases hq : q.2 < 0
  · rw [if_pos hq] at h
    rw [show am_cv o (.inr (.inr q)) = .null from am_cv_null (by rw [am_rf_many h1]; unfold am_rO; rw [if_pos hq])]
    exact lv_ifnullN hx hb hd ht (hk _ h H locs ls hP hS hl)
  · rw [if_neg hq] at h
    rw [show am_cv o (.inr (.inr q)) = .ref (o + am_ad q.1 q.2.toNatClampNeg) from am_cv_ref (by rw [am_rf_many h1]; unfold am_rO; rw [if_neg hq])]
    exact lv_ifnull hx hb hd (hk _ h H locs ls hP hS hl)
theorem ok_nn (hX : am_X p l R s m args meth c D cy o cc nL own rt) {pc : Nat} {off : Int} {t : Nat} (hd : decode cc pc = .ok (.ifnonnull off, 3)) (ht : (pc : Int) + off = (t : Int)) : am_OK p l e R s m args below meth c D cy o nL pc (im_nn t) := by
  obtain ⟨hx, hb, hml, hr, hlocks, htab, hown, hts, hK, hxt, hZ, hl0, hRc, hRs⟩ := id hX
  intro L st g k res h hk H locs ls hP hS hl
  dsimp only [im_nn] at h
  rcases st with _ | ⟨x | x | q, r⟩ <;> try (cases h; done)
  dsimp only at h
  obtain ⟨h1, h⟩ := am_g_some h
  show W p l e R s m args below meth c H locs 0 0 _ (F0 m pc ls (am_cv o (.inr (.inr q)) :: r.map (am_cv o)))
  by_cases hq : q.2 < 0
  · rw [if_pos hq] at h
    rw [show am_cv o (.inr (.inr q)) = .null from am_cv_null (by rw [am_rf_many h1]; unfold am_rO; rw [if_pos hq])]
    exact lv_ifnonnullN hx hb hd (hk _ h H locs ls hP hS hl)
  · rw [if_neg hq] at h
    rw [show am_cv o (.inr (.inr q)) = .ref (o + am_ad q.1 q.2.toNatClampNeg) from am_cv_ref (by rw [am_rf_many h1]; unfold am_rO; rw [if_neg hq])]
    exact lv_ifnonnull hx hb hd ht (hk _ h H locs ls hP hS hl)
theorem am_sz {H : Heap} {locs : List Loc} {Q : State → Prop} {gg : JFrame} (h : H.size = s.heap.size → W p l e R s m args below meth c H locs 0 0 Q gg) : W p l e R s m args below meth c H locs 0 0 Q gg := by
  intro T hT X
  refine h ?_ T hT X
  have h1 := X.heapSize
  have h2 : s.heap.size ≤ T.heap.size := X.same.2.1
  rw [← hT]
  omega
theorem am_i_neg {x : Int32} (h1 : am_nn x = true) (h2 : x < 0) : x = -1 := by
  have a : (-1 : Int32) ≤ x := of_decide_eq_true h1
  rw [Int32.le_iff_toInt_le] at a
  rw [Int32.lt_iff_toInt_lt] at h2
  apply Int32.toInt_inj.mp
  have e : (-1 : Int32).toInt = -1 := by decide
  have e0 : (0 : Int32).toInt = 0 := by decide
  rw [e] at a ⊢
  rw [e0] at h2
  omega
theorem am_ad_inj {f a b : Nat} (hf : (!(Nat.beq (am_ct f) 1)) = true) (h : am_ad f a = am_ad f b) : a = b := by
  have h1 : ¬ am_ct f = 1 := fun q => by rw [q] at hf; cases hf
  have h2 : ¬ (f < 5 ∨ (7 ≤ f ∧ f < 19) ∨ 24 ≤ f) := fun q => h1 (am_ct_1 q)
  unfold am_ad at h
  by_cases q1 : f < 7
  · rw [if_neg (by omega), if_pos q1, if_neg (by omega), if_pos q1] at h
    omega
  · rw [if_neg (by omega), if_neg q1, if_neg (by omega), if_pos (by omega), if_neg (by omega), if_neg q1, if_neg (by omega), if_pos (by omega)] at h
    omega
theorem am_rO_inj {o f : Nat} {x y : Int32} (hf : (!(Nat.beq (am_ct f) 1)) = true) (hx : am_nn x = true) (hy : am_nn y = true) : am_rO o f x = am_rO o f y ↔ x = y := by
  refine ⟨fun h => ?_, fun h => by rw [h]⟩
  unfold am_rO at h
  by_cases h1 : x < 0
  · by_cases h2 : y < 0
    · rw [am_i_neg hx h1, am_i_neg hy h2]
    · rw [if_pos h1, if_neg h2] at h
      cases h
  · by_cases h2 : y < 0
    · rw [if_neg h1, if_pos h2] at h
      cases h
    · rw [if_neg h1, if_neg h2] at h
      have h3 := am_ad_inj hf (Nat.add_left_cancel (Option.some.inj h))
      obtain ⟨j, hj, rfl⟩ := nI_of h1
      obtain ⟨j', hj', rfl⟩ := nI_of h2
      rw [nI_clamp hj, nI_clamp hj'] at h3
      rw [h3]
theorem ok_an (hX : am_X p l R s m args meth c D cy o cc nL own rt) {pc : Nat} {off : Int} {t : Nat} (hd : decode cc pc = .ok (.if_acmp .ne off, 3)) (ht : (pc : Int) + off = (t : Int)) : am_OK p l e R s m args below meth c D cy o nL pc (im_an t) := by
  obtain ⟨hx, hb, hml, hr, hlocks, htab, hown, hts, hK, hxt, hZ, hl0, hRc, hRs⟩ := id hX
  intro L st g k res h hk H locs ls hP hS hl
  dsimp only [im_an] at h
  rcases st with _ | ⟨y | y | q', _ | ⟨x | x | q, r⟩⟩ <;> try (cases h; done)
  dsimp only at h
  obtain ⟨h1, h⟩ := am_g_some h
  obtain ⟨h2, h⟩ := am_g_some h
  obtain ⟨h3, h⟩ := am_g_some h
  rw [Bool.and_eq_true] at h1
  have e := Nat.eq_of_beq_eq_true h1.1
  have hi : am_rf o q.1 q.2 = am_rf o q'.1 q'.2 ↔ q.2 = q'.2 := by
    rw [← e, am_rf_many h1.2, am_rf_many h1.2]
    exact am_rO_inj h1.2 h2 h3
  refine lv_acmp_ne (rx := am_rf o q.1 q.2) (ry := am_rf o q'.1 q'.2) hx hb hd ht (fun z => ?_) (fun z => ?_)
  · rw [if_neg (fun w => z (hi.mpr w))] at h
    exact hk _ h H locs ls hP hS hl
  · rw [if_pos (hi.mp z)] at h
    exact hk _ h H locs ls hP hS hl
theorem am_sw_eq {x : Int32} {d : Nat} {kk : Nat → am_R} : ∀ (ts : List Nat) (lo : Int32), lo.toInt + ts.length < 2147483648 → am_sw x lo d kk ts = kk (if lo.toInt ≤ x.toInt ∧ x.toInt < lo.toInt + ts.length then ts.getD (x.toInt - lo.toInt).toNat d else d) := by
  intro ts
  induction ts with
  | nil =>
    intro lo h
    rw [if_neg (by simp only [List.length_nil]; omega)]
    rfl
  | cons t ts ih =>
    intro lo h
    unfold am_sw
    rw [List.length_cons] at h
    have e1 : (lo + 1).toInt = lo.toInt + 1 := by
      have h1 := Int32.le_toInt lo
      have e : (1 : Int32).toInt = 1 := by decide
      rw [Int32.toInt_add, e]
      apply Int.bmod_eq_of_le <;> omega
    by_cases hx : x = lo
    · subst hx
      rw [if_pos rfl, if_pos (by rw [List.length_cons]; omega)]
      simp
    · rw [if_neg hx, ih (lo + 1) (by rw [e1]; omega), e1]
      have hne : x.toInt ≠ lo.toInt := fun z => hx (Int32.toInt_inj.mp z)
      congr 1
      rw [List.length_cons]
      by_cases hc : lo.toInt + 1 ≤ x.toInt ∧ x.toInt < lo.toInt + 1 + ts.length
      · rw [if_pos hc, if_pos (by omega)]
        have e2 : (x.toInt - lo.toInt).toNat = (x.toInt - (lo.toInt + 1)).toNat + 1 := by omega
        rw [e2, List.getD_cons_succ]
      · rw [if_neg hc, if_neg (by omega)]
theorem ok_ts (hX : am_X p l R s m args meth c D cy o cc nL own rt) {pc : Nat} {lo : Int32} {loI hiI df : Int} {ts : List Nat} {d len : Nat} {offs : Array Int} (hd : decode cc pc = .ok (.tableswitch df loI hiI offs, len)) (hlo : lo.toInt = loI) (hhi : hiI = loI + ts.length - 1) (hdf : (pc : Int) + df = (d : Int)) (ho : offs = (ts.map (fun t : Nat => (t : Int) - pc)).toArray) (hsm : loI + ts.length < 2147483648) : am_OK p l e R s m args below meth c D cy o nL pc (im_ts lo ts d) := by
  obtain ⟨hx, hb, hml, hr, hlocks, htab, hown, hts, hK, hxt, hZ, hl0, hRc, hRs⟩ := id hX
  intro L st g k res h hk H locs ls hP hS hl
  dsimp only [im_ts] at h
  rcases st with _ | ⟨x | x | q, r⟩ <;> try (cases h; done)
  dsimp only at h
  rw [am_sw_eq ts lo (by rw [hlo]; exact hsm), hlo] at h
  by_cases hc : loI ≤ x.toInt ∧ x.toInt < loI + ts.length
  · rw [if_pos hc] at h
    have hlt : (x.toInt - loI).toNat < ts.length := by omega
    refine lv_tableIn (tgt := ts.getD (x.toInt - loI).toNat d) hx hb hd (by omega) (by omega) (off := ((ts.getD (x.toInt - loI).toNat d : Nat) : Int) - pc) ?_ (by omega) (hk _ h H locs ls hP hS hl)
    rw [ho]
    simp [hlt]
  · rw [if_neg hc] at h
    exact lv_tableOut hx hb hd (by omega) hdf (hk _ h H locs ls hP hS hl)
theorem am_ce_obj {o : Nat} {cy : Nat → ClassId} {g : am_S} {f i : Nat} (h : am_ak f = 0) : am_ce o cy g f i = .inr (am_cl f, (List.range (am_nf f)).map (am_sv o g f i)) := by simp only [am_ce, h]
theorem am_ce_arr {o : Nat} {cy : Nat → ClassId} {g : am_S} {f i n : Nat} (h : am_ak f = n + 1) : am_ce o cy g f i = .inl (cy (am_ay f), am_ln f, am_row o g f i) := by simp only [am_ce, h]
theorem am_fs_at {o : Nat} {g : am_S} {f i j : Nat} (h : j < am_nf f) : ((List.range (am_nf f)).map (am_sv o g f i))[j]? = some (am_sv o g f i j) := by simp [h]
theorem am_fs_up {o : Nat} {g : am_S} {f i j : Nat} {v : Int32} (hs : am_sk f j = 0) : ((List.range (am_nf f)).map (am_sv o g f i)).set j (.int v) = (List.range (am_nf f)).map (am_sv o (am_up g f i j v) f i) := by
  apply List.ext_getElem?
  intro k
  by_cases hk : k = j
  · subst hk
    by_cases hn : k < am_nf f
    · rw [List.getElem?_set_self (by simpa using hn), am_fs_at hn]
      unfold am_sv
      rw [hs]
      simp only [am_up_at]
    · rw [List.getElem?_eq_none (by simpa using hn), List.getElem?_eq_none (by simpa using hn)]
  · rw [List.getElem?_set_ne (Ne.symm hk)]
    by_cases hn : k < am_nf f
    · rw [am_fs_at hn, am_fs_at hn]
      unfold am_sv
      rw [am_up_j hk]
    · rw [List.getElem?_eq_none (by simpa using hn), List.getElem?_eq_none (by simpa using hn)]
theorem ok_gi (hX : am_X p l R s m args meth c D cy o cc nL own rt) {pc : Nat} {f j idx N : Nat} {C ref : String} {T : u_T} (hf : f < 46) (hak : am_ak f = 0) (hc : vwCl[am_cl f]? = some (C, T, N)) (hN : am_nf f = N) (hj : j < N) (hin : ∀ w ∈ u_ws C T N, w ∈ am_TB) (hlink : Cond.fieldLink own idx ref (T j).2.1 (T j).2.2.1 ∈ am_TB) (href : ref = (T j).1) (hs : am_sk f j = 0) (hd : decode cc pc = .ok (.getfield idx, 3)) : am_OK p l e R s m args below meth c D cy o nL pc (im_gi f j) := by
  obtain ⟨hx, hb, hml, hr, hlocks, htab, hown, hts, hK, hxt, hZ, hl0, hRc, hRs⟩ := id hX
  intro L st g k res h hk H locs ls hP hS hl
  dsimp only [im_gi] at h
  rcases st with _ | ⟨x | x | q, r⟩ <;> try (cases h; done)
  dsimp only at h
  obtain ⟨h1, h⟩ := am_g_some h
  have eq0 := Nat.eq_of_beq_eq_true h1
  obtain ⟨h, hi, hrf⟩ := am_gr_some (o := o) h
  show W p l e R s m args below meth c H locs 0 0 _ (F0 m pc ls (am_cv o (.inr (.inr q)) :: r.map (am_cv o)))
  rw [show am_cv o (.inr (.inr q)) = .ref (o + am_ad f (am_ix f q.2)) from am_cv_ref (by rw [eq0]; exact hrf)]
  have he := am_wl_get (o := o) (cy := cy) (g := g) hf hi
  rw [am_ce_obj hak] at he
  refine va_get hx hb hts hin hown hK hP _ he hc j hj (hts _ hlink) (fun _ z => by rw [href]; exact z) (v := am_sv o g f (am_ix f q.2) j) (by rw [am_fs_at (by omega)]) hd ?_
  have h2 := hk _ h H locs ls hP hS hl
  rw [show am_sv o g f (am_ix f q.2) j = .int (g f (am_ix f q.2) j) by simp only [am_sv, hs]]
  exact h2
theorem ok_gf (hX : am_X p l R s m args meth c D cy o cc nL own rt) {pc : Nat} {f j idx N : Nat} {C ref : String} {T : u_T} (hf : f < 46) (hak : am_ak f = 0) (hc : vwCl[am_cl f]? = some (C, T, N)) (hN : am_nf f = N) (hj : j < N) (hin : ∀ w ∈ u_ws C T N, w ∈ am_TB) (hlink : Cond.fieldLink own idx ref (T j).2.1 (T j).2.2.1 ∈ am_TB) (href : ref = (T j).1) {n : Nat} (hs : am_sk f j = n + 1) (hct : am_ct n = am_ct f) (hd : decode cc pc = .ok (.getfield idx, 3)) : am_OK p l e R s m args below meth c D cy o nL pc (im_gf f j n) := by
  obtain ⟨hx, hb, hml, hr, hlocks, htab, hown, hts, hK, hxt, hZ, hl0, hRc, hRs⟩ := id hX
  intro L st g k res h hk H locs ls hP hS hl
  dsimp only [im_gf] at h
  rcases st with _ | ⟨x | x | q, r⟩ <;> try (cases h; done)
  dsimp only at h
  obtain ⟨h1, h⟩ := am_g_some h
  have eq0 := Nat.eq_of_beq_eq_true h1
  obtain ⟨h, hi, hrf⟩ := am_gr_some (o := o) h
  show W p l e R s m args below meth c H locs 0 0 _ (F0 m pc ls (am_cv o (.inr (.inr q)) :: r.map (am_cv o)))
  rw [show am_cv o (.inr (.inr q)) = .ref (o + am_ad f (am_ix f q.2)) from am_cv_ref (by rw [eq0]; exact hrf)]
  have he := am_wl_get (o := o) (cy := cy) (g := g) hf hi
  rw [am_ce_obj hak] at he
  refine va_get hx hb hts hin hown hK hP _ he hc j hj (hts _ hlink) (fun _ z => by rw [href]; exact z) (v := am_sv o g f (am_ix f q.2) j) (by rw [am_fs_at (by omega)]) hd ?_
  have h2 := hk _ h H locs ls hP hS hl
  have e9 : am_rf o n q.2 = some (o + am_ad n (am_ix f q.2)) := by
    unfold am_rf am_ix at *
    rw [hct]
    cases hb9 : Nat.beq (am_ct f) 1 with
    | true => rfl
    | false =>
      rw [hb9] at hrf
      dsimp only at hrf ⊢
      unfold am_rO at hrf ⊢
      by_cases z : q.2 < 0
      · rw [if_pos z] at hrf; cases hrf
      · rw [if_neg z]
  rw [show am_sv o g f (am_ix f q.2) j = .ref (o + am_ad n (am_ix f q.2)) by simp only [am_sv, hs]]
  have e8 : am_cv o (.inr (.inr (n, q.2))) = .ref (o + am_ad n (am_ix f q.2)) := am_cv_ref e9
  rw [← e8]
  exact h2
theorem ok_pi (hX : am_X p l R s m args meth c D cy o cc nL own rt) {pc : Nat} {f j idx N : Nat} {C ref : String} {T : u_T} (hf : f < 46) (hak : am_ak f = 0) (hc : vwCl[am_cl f]? = some (C, T, N)) (hN : am_nf f = N) (hj : j < N) (hin : ∀ w ∈ u_ws C T N, w ∈ am_TB) (hlink : Cond.fieldLink own idx ref (T j).2.1 (T j).2.2.1 ∈ am_TB) (href : ref = (T j).1) (ty0 : Nat → FieldType) (hty : ∀ k, k < N → parseFieldDescriptor (T k).2.2.1 = some (ty0 k)) (hnm : ∀ a, a < N → ∀ b, b < N → a ≠ b → (T a).2.1 ≠ (T b).2.1) (hfin : (T j).2.2.2 = false) (hs : am_sk f j = 0) (hds : parseFieldDescriptor (T j).2.2.1 = some .int) (hd : decode cc pc = .ok (.putfield idx, 3)) : am_OK p l e R s m args below meth c D cy o nL pc (im_pi f j) := by
  obtain ⟨hx, hb, hml, hr, hlocks, htab, hown, hts, hK, hxt, hZ, hl0, hRc, hRs⟩ := id hX
  intro L st g k res h hk H locs ls hP hS hl
  dsimp only [im_pi] at h
  rcases st with _ | ⟨y | y | q', _ | ⟨x | x | q, r⟩⟩ <;> try (cases h; done)
  have hna : narrow .int (.int y) = .int y := rfl
  have hfi : fits .int (.int y) = true := rfl
  dsimp only at h
  obtain ⟨h1, h⟩ := am_g_some h
  have eq0 := Nat.eq_of_beq_eq_true h1
  obtain ⟨h, hi, hrf⟩ := am_gr_some (o := o) h
  show W p l e R s m args below meth c H locs 0 0 _ (F0 m pc ls (.int y :: am_cv o (.inr (.inr q)) :: r.map (am_cv o)))
  rw [show am_cv o (.inr (.inr q)) = .ref (o + am_ad f (am_ix f q.2)) from am_cv_ref (by rw [eq0]; exact hrf)]
  have he := am_wl_get (o := o) (cy := cy) (g := g) hf hi
  rw [am_ce_obj hak] at he
  refine va_put hx hb hts hin ty0 hty hnm hown hK hP (am_wl_D o cy g) hS _ he hc j hj (hts _ hlink) (fun _ z => by rw [href]; exact z) hfin (ty := .int) hds hna hfi (by simp only [List.length_map, List.length_range]; omega) hd (fun H1 locs1 hP1 _ hS1 => ?_)
  rw [am_fs_up hs, am_wl_set (g' := am_up g f (am_ix f q.2) j y) hf hi (am_ce_obj hak).symm (fun f' i' z => am_ce_off z)] at hP1
  exact hk _ h H1 locs1 ls hP1 hS1 hl
theorem am_b_or {x : Int32} (h : am_b x = true) : x = 0 ∨ x = 1 := by
  unfold am_b at h
  rw [Bool.or_eq_true] at h
  exact h.imp of_decide_eq_true of_decide_eq_true
theorem am_b_nar {x : Int32} (h : am_b x = true) : narrow .boolean (.int x) = .int x ∧ fits .boolean (.int x) = true ∧ vp_nar .boolean x = x := by
  rcases am_b_or h with rfl | rfl <;> decide
theorem ok_pz (hX : am_X p l R s m args meth c D cy o cc nL own rt) {pc : Nat} {f j idx N : Nat} {C ref : String} {T : u_T} (hf : f < 46) (hak : am_ak f = 0) (hc : vwCl[am_cl f]? = some (C, T, N)) (hN : am_nf f = N) (hj : j < N) (hin : ∀ w ∈ u_ws C T N, w ∈ am_TB) (hlink : Cond.fieldLink own idx ref (T j).2.1 (T j).2.2.1 ∈ am_TB) (href : ref = (T j).1) (ty0 : Nat → FieldType) (hty : ∀ k, k < N → parseFieldDescriptor (T k).2.2.1 = some (ty0 k)) (hnm : ∀ a, a < N → ∀ b, b < N → a ≠ b → (T a).2.1 ≠ (T b).2.1) (hfin : (T j).2.2.2 = false) (hs : am_sk f j = 0) (hds : parseFieldDescriptor (T j).2.2.1 = some .boolean) (hd : decode cc pc = .ok (.putfield idx, 3)) : am_OK p l e R s m args below meth c D cy o nL pc (im_pz f j) := by
  obtain ⟨hx, hb, hml, hr, hlocks, htab, hown, hts, hK, hxt, hZ, hl0, hRc, hRs⟩ := id hX
  intro L st g k res h hk H locs ls hP hS hl
  dsimp only [im_pz] at h
  rcases st with _ | ⟨y | y | q', _ | ⟨x | x | q, r⟩⟩ <;> try (cases h; done)
  dsimp only at h
  obtain ⟨h1, h⟩ := am_g_some h
  have eq0 := Nat.eq_of_beq_eq_true h1
  obtain ⟨h, hi, hrf⟩ := am_gr_some (o := o) h
  obtain ⟨hbb, h⟩ := am_g_some h
  obtain ⟨hna, hfi, -⟩ := am_b_nar hbb
  show W p l e R s m args below meth c H locs 0 0 _ (F0 m pc ls (.int y :: am_cv o (.inr (.inr q)) :: r.map (am_cv o)))
  rw [show am_cv o (.inr (.inr q)) = .ref (o + am_ad f (am_ix f q.2)) from am_cv_ref (by rw [eq0]; exact hrf)]
  have he := am_wl_get (o := o) (cy := cy) (g := g) hf hi
  rw [am_ce_obj hak] at he
  refine va_put hx hb hts hin ty0 hty hnm hown hK hP (am_wl_D o cy g) hS _ he hc j hj (hts _ hlink) (fun _ z => by rw [href]; exact z) hfin (ty := .boolean) hds hna hfi (by simp only [List.length_map, List.length_range]; omega) hd (fun H1 locs1 hP1 _ hS1 => ?_)
  rw [am_fs_up hs, am_wl_set (g' := am_up g f (am_ix f q.2) j y) hf hi (am_ce_obj hak).symm (fun f' i' z => am_ce_off z)] at hP1
  exact hk _ h H1 locs1 ls hP1 hS1 hl
theorem am_ak_lt {f n : Nat} (h : am_ak f = n) (hn : n < 7) : f < 46 := by
  rcases Nat.lt_or_ge f 46 with q | q
  · exact q
  · exfalso
    have : am_ak f = 7 := by
      unfold am_ak
      split <;> first | rfl | omega
    omega
theorem am_ay_1 {f : Nat} (h : am_ak f = 1) : am_ay f = 0 := by
  unfold am_ay
  split <;> first | (simp [am_ak] at h; done) | (simp only [h])
theorem am_ay_2 {f : Nat} (h : am_ak f = 2) : am_ay f = 1 := by
  unfold am_ay
  split <;> first | (simp [am_ak] at h; done) | (simp only [h])
theorem am_ay_3 {f : Nat} (h : am_ak f = 3) : am_ay f = 2 := by
  unfold am_ay
  split <;> first | (simp [am_ak] at h; done) | (simp only [h])
theorem am_ay_6 {f : Nat} (h : am_ak f = 6) : am_ay f = 4 := by
  unfold am_ay
  split <;> first | (simp [am_ak] at h; done) | (simp only [h])
theorem am_ay_4 {f : Nat} (h : am_ak f = 4) : (am_ay f = 3 ∧ am_af f = 19 ∧ am_ln f = 8) ∨ (am_ay f = 2 ∧ am_af f = 5 ∧ am_ln f = 128) := by
  have hf := am_ak_lt h (by omega)
  have key : ∀ f, f < 46 → am_ak f = 4 → f = 1 ∨ f = 3 := by decide
  rcases key f hf h with rfl | rfl
  · exact Or.inl ⟨rfl, rfl, rfl⟩
  · exact Or.inr ⟨rfl, rfl, rfl⟩
theorem ok_ia (hX : am_X p l R s m args meth c D cy o cc nL own rt) {pc : Nat} (hd : decode cc pc = .ok (.iaload, 1)) : am_OK p l e R s m args below meth c D cy o nL pc (im_ia) := by
  obtain ⟨hx, hb, hml, hr, hlocks, htab, hown, hts, hK, hxt, hZ, hl0, hRc, hRs⟩ := id hX
  intro L st g k res h hk H locs ls hP hS hl
  dsimp only [im_ia] at h
  rcases st with _ | ⟨y | y | q', _ | ⟨x | x | q, r⟩⟩ <;> try (cases h; done)
  dsimp only at h
  obtain ⟨h1, h⟩ := am_g_some h
  have ek : am_ak q.1 = 1 := Nat.eq_of_beq_eq_true h1
  have hf := am_ak_lt ek (by omega)
  obtain ⟨h, hi, hrf⟩ := am_gr_some (o := o) h
  obtain ⟨h3, h⟩ := am_g_some h
  have hvi := am_in_iff.mp h3
  show W p l e R s m args below meth c H locs 0 0 _ (F0 m pc ls (.int y :: am_cv o (.inr (.inr q)) :: r.map (am_cv o)))
  rw [show am_cv o (.inr (.inr q)) = .ref (o + am_ad q.1 (am_ix q.1 q.2)) from am_cv_ref hrf]
  have he := am_wl_get (o := o) (cy := cy) (g := g) hf hi
  rw [am_ce_arr ek, am_ay_1 ek, show am_row o g q.1 (am_ix q.1 q.2) = .inl (fun j => g q.1 (am_ix q.1 q.2) j) by simp only [am_row, ek]] at he
  exact va_iald hx hb hK hP _ 0 he rfl hvi hd (hk _ h H locs ls hP hS hl)
theorem ok_ba (hX : am_X p l R s m args meth c D cy o cc nL own rt) {pc : Nat} (hd : decode cc pc = .ok (.baload, 1)) : am_OK p l e R s m args below meth c D cy o nL pc (im_ba) := by
  obtain ⟨hx, hb, hml, hr, hlocks, htab, hown, hts, hK, hxt, hZ, hl0, hRc, hRs⟩ := id hX
  intro L st g k res h hk H locs ls hP hS hl
  dsimp only [im_ba] at h
  rcases st with _ | ⟨y | y | q', _ | ⟨x | x | q, r⟩⟩ <;> try (cases h; done)
  dsimp only at h
  obtain ⟨h1, h⟩ := am_g_some h
  have ek : am_ak q.1 = 2 := Nat.eq_of_beq_eq_true h1
  have hf := am_ak_lt ek (by omega)
  obtain ⟨h, hi, hrf⟩ := am_gr_some (o := o) h
  obtain ⟨h3, h⟩ := am_g_some h
  have hvi := am_in_iff.mp h3
  show W p l e R s m args below meth c H locs 0 0 _ (F0 m pc ls (.int y :: am_cv o (.inr (.inr q)) :: r.map (am_cv o)))
  rw [show am_cv o (.inr (.inr q)) = .ref (o + am_ad q.1 (am_ix q.1 q.2)) from am_cv_ref hrf]
  have he := am_wl_get (o := o) (cy := cy) (g := g) hf hi
  rw [am_ce_arr ek, am_ay_2 ek, show am_row o g q.1 (am_ix q.1 q.2) = .inl (fun j => g q.1 (am_ix q.1 q.2) j) by simp only [am_row, ek]] at he
  exact va_zald hx hb hK hP _ 1 he rfl hvi hd (hk _ h H locs ls hP hS hl)
theorem am_ce_up {o : Nat} {cy : Nat → ClassId} {g : am_S} {f i j n : Nat} {v : Int32} (ek : am_ak f = n + 1) (hr : am_row o (am_up g f i j v) f i = am_row o g f i ∨ True) : am_ce o cy (am_up g f i j v) f i = .inl (cy (am_ay f), am_ln f, am_row o (am_up g f i j v) f i) := am_ce_arr ek
theorem am_row_i {o : Nat} {g : am_S} {f i j : Nat} {v : Int32} (ek : am_ak f = 1 ∨ am_ak f = 2) : am_row o (am_up g f i j v) f i = .inl (upd (fun j => g f i j) j v) := by
  have e : (fun j' => am_up g f i j v f i j') = upd (fun j => g f i j) j v := by
    funext j'
    by_cases hj : j' = j
    · subst hj; simp [am_up, upd]
    · simp [am_up, upd, hj]
  unfold am_row
  rcases ek with ek | ek <;> simp only [ek, e]
theorem am_row_s {o : Nat} {g : am_S} {f i j : Nat} {v : Int32} (ek : am_ak f = 3) : am_row o (am_up g f i j v) f i = .inr (.inr (.inr (.inr (va_up (fun j => am_rO o 5 (g f i j)) j (am_rO o 5 v))))) := by
  have e : (fun j' => am_rO o 5 (am_up g f i j v f i j')) = va_up (fun j => am_rO o 5 (g f i j)) j (am_rO o 5 v) := by
    funext j'
    by_cases hj : j' = j
    · subst hj; simp [am_up, va_up]
    · simp [am_up, va_up, hj]
  simp only [am_row, ek, e]
theorem ok_ast (hX : am_X p l R s m args meth c D cy o cc nL own rt) {pc : Nat} (hd : decode cc pc = .ok (.iastore, 1)) : am_OK p l e R s m args below meth c D cy o nL pc (im_si) := by
  obtain ⟨hx, hb, hml, hr, hlocks, htab, hown, hts, hK, hxt, hZ, hl0, hRc, hRs⟩ := id hX
  intro L st g k res h hk H locs ls hP hS hl
  dsimp only [im_si] at h
  rcases st with _ | ⟨v | v | v, _ | ⟨y | y | y, _ | ⟨x | x | q, r⟩⟩⟩ <;> try (cases h; done)
  dsimp only at h
  obtain ⟨h1, h⟩ := am_g_some h
  have ek : am_ak q.1 = 1 := Nat.eq_of_beq_eq_true h1
  have hf := am_ak_lt ek (by omega)
  obtain ⟨h, hi, hrf⟩ := am_gr_some (o := o) h
  obtain ⟨h3, h⟩ := am_g_some h
  have hvi := am_in_iff.mp h3
  show W p l e R s m args below meth c H locs 0 0 _ (F0 m pc ls (.int v :: .int y :: am_cv o (.inr (.inr q)) :: r.map (am_cv o)))
  rw [show am_cv o (.inr (.inr q)) = .ref (o + am_ad q.1 (am_ix q.1 q.2)) from am_cv_ref hrf]
  have he := am_wl_get (o := o) (cy := cy) (g := g) hf hi
  rw [am_ce_arr ek, am_ay_1 ek, show am_row o g q.1 (am_ix q.1 q.2) = .inl (fun j => g q.1 (am_ix q.1 q.2) j) by simp only [am_row, ek]] at he
  refine va_iast hx hb hK hP (am_wl_D o cy g) hS _ 0 he rfl hvi hd (fun H1 locs1 hP1 _ hS1 => ?_)
  rw [am_wl_set (g' := am_up g q.1 (am_ix q.1 q.2) y.toNatClampNeg v) hf hi (by rw [am_ce_arr ek, am_ay_1 ek, am_row_i (Or.inl ek)]) (fun f' i' z => am_ce_off z)] at hP1
  exact hk _ h H1 locs1 ls hP1 hS1 hl
theorem ok_bst (hX : am_X p l R s m args meth c D cy o cc nL own rt) {pc : Nat} (hd : decode cc pc = .ok (.bastore, 1)) : am_OK p l e R s m args below meth c D cy o nL pc (im_sb) := by
  obtain ⟨hx, hb, hml, hr, hlocks, htab, hown, hts, hK, hxt, hZ, hl0, hRc, hRs⟩ := id hX
  intro L st g k res h hk H locs ls hP hS hl
  dsimp only [im_sb] at h
  rcases st with _ | ⟨v | v | v, _ | ⟨y | y | y, _ | ⟨x | x | q, r⟩⟩⟩ <;> try (cases h; done)
  dsimp only at h
  obtain ⟨h1, h⟩ := am_g_some h
  have ek : am_ak q.1 = 2 := Nat.eq_of_beq_eq_true h1
  have hf := am_ak_lt ek (by omega)
  obtain ⟨h, hi, hrf⟩ := am_gr_some (o := o) h
  obtain ⟨h3, h⟩ := am_g_some h
  have hvi := am_in_iff.mp h3
  obtain ⟨hbb, h⟩ := am_g_some h
  obtain ⟨-, -, hnr⟩ := am_b_nar hbb
  show W p l e R s m args below meth c H locs 0 0 _ (F0 m pc ls (.int v :: .int y :: am_cv o (.inr (.inr q)) :: r.map (am_cv o)))
  rw [show am_cv o (.inr (.inr q)) = .ref (o + am_ad q.1 (am_ix q.1 q.2)) from am_cv_ref hrf]
  have he := am_wl_get (o := o) (cy := cy) (g := g) hf hi
  rw [am_ce_arr ek, am_ay_2 ek, show am_row o g q.1 (am_ix q.1 q.2) = .inl (fun j => g q.1 (am_ix q.1 q.2) j) by simp only [am_row, ek]] at he
  refine va_zast hx hb hK hP (am_wl_D o cy g) hS _ 1 he rfl hvi hd (fun H1 locs1 hP1 _ hS1 => ?_)
  rw [hnr, am_wl_set (g' := am_up g q.1 (am_ix q.1 q.2) y.toNatClampNeg v) hf hi (by rw [am_ce_arr ek, am_ay_2 ek, am_row_i (Or.inr ek)]) (fun f' i' z => am_ce_off z)] at hP1
  exact hk _ h H1 locs1 ls hP1 hS1 hl
theorem am_cv_s {o : Nat} {x : Int32} : am_cv o (.inr (.inr (5, x))) = va_rf (am_rO o 5 x) := rfl
theorem ok_aa (hX : am_X p l R s m args meth c D cy o cc nL own rt) {pc : Nat} (hd : decode cc pc = .ok (.aaload, 1)) : am_OK p l e R s m args below meth c D cy o nL pc (im_aa) := by
  obtain ⟨hx, hb, hml, hr, hlocks, htab, hown, hts, hK, hxt, hZ, hl0, hRc, hRs⟩ := id hX
  intro L st g k res h hk H locs ls hP hS hl
  dsimp only [im_aa] at h
  rcases st with _ | ⟨y | y | q', _ | ⟨x | x | q, r⟩⟩ <;> try (cases h; done)
  dsimp only at h
  by_cases ek : am_ak q.1 = 3
  · rw [ek] at h
    have hf := am_ak_lt ek (by omega)
    obtain ⟨h, hi, hrf⟩ := am_gr_some (o := o) h
    obtain ⟨h3, h⟩ := am_g_some h
    have hvi := am_in_iff.mp h3
    show W p l e R s m args below meth c H locs 0 0 _ (F0 m pc ls (.int y :: am_cv o (.inr (.inr q)) :: r.map (am_cv o)))
    rw [show am_cv o (.inr (.inr q)) = .ref (o + am_ad q.1 (am_ix q.1 q.2)) from am_cv_ref hrf]
    have he := am_wl_get (o := o) (cy := cy) (g := g) hf hi
    rw [am_ce_arr ek, am_ay_3 ek, show am_row o g q.1 (am_ix q.1 q.2) = .inr (.inr (.inr (.inr (fun j => am_rO o 5 (g q.1 (am_ix q.1 q.2) j))))) by simp only [am_row, ek]] at he
    exact va_aldq hx hb hK hP _ 2 he rfl hvi hd (hk _ h H locs ls hP hS hl)
  · by_cases ek : am_ak q.1 = 4
    · rw [ek] at h
      have hf := am_ak_lt ek (by omega)
      obtain ⟨h, hi, hrf⟩ := am_gr_some (o := o) h
      obtain ⟨h3, h⟩ := am_g_some h
      have hvi := am_in_iff.mp h3
      show W p l e R s m args below meth c H locs 0 0 _ (F0 m pc ls (.int y :: am_cv o (.inr (.inr q)) :: r.map (am_cv o)))
      rw [show am_cv o (.inr (.inr q)) = .ref (o + am_ad q.1 (am_ix q.1 q.2)) from am_cv_ref hrf]
      have he := am_wl_get (o := o) (cy := cy) (g := g) hf hi
      rw [am_ce_arr ek, show am_row o g q.1 (am_ix q.1 q.2) = .inr (.inr (.inr (.inr (fun j => some (o + am_ad (am_af q.1) j))))) by simp only [am_row, ek]] at he
      have h2 := hk _ h H locs ls hP hS hl
      have h0 : ¬ y < 0 := fun z => hvi (Or.inl z)
      have e8 : am_cv o (.inr (.inr (am_af q.1, y))) = va_rf (some (o + am_ad (am_af q.1) y.toNatClampNeg)) := by
        show va_rf (am_rf o (am_af q.1) y) = _
        rw [am_rf_many (by rcases am_ay_4 ek with ⟨-, z, -⟩ | ⟨-, z, -⟩ <;> rw [z] <;> rfl)]
        unfold am_rO
        rw [if_neg h0]
      rcases am_ay_4 ek with ⟨z1, z2, z3⟩ | ⟨z1, z2, z3⟩
      · rw [z1] at he
        refine va_aldq (f := fun j => some (o + am_ad (am_af q.1) j)) hx hb hK hP _ 3 he rfl hvi hd ?_
        rw [← e8]
        exact h2
      · rw [z1] at he
        refine va_aldq (f := fun j => some (o + am_ad (am_af q.1) j)) hx hb hK hP _ 2 he rfl hvi hd ?_
        rw [← e8]
        exact h2
    · exfalso
      revert h
      split
      · exact fun _ => by contradiction
      · exact fun _ => by contradiction
      · exact fun z => by cases z
theorem ok_sta (hX : am_X p l R s m args meth c D cy o cc nL own rt) {pc : Nat} (hd : decode cc pc = .ok (.aastore, 1)) : am_OK p l e R s m args below meth c D cy o nL pc (im_sa) := by
  obtain ⟨hx, hb, hml, hr, hlocks, htab, hown, hts, hK, hxt, hZ, hl0, hRc, hRs⟩ := id hX
  intro L st g k res h hk H locs ls hP hS hl
  dsimp only [im_sa] at h
  rcases st with _ | ⟨v | v | v, _ | ⟨y | y | y, _ | ⟨x | x | q, r⟩⟩⟩ <;> try (cases h; done)
  obtain ⟨v1, v2⟩ := v
  dsimp only at h
  obtain ⟨h1, h⟩ := am_g_some h
  rw [Bool.and_eq_true] at h1
  have ev := Nat.eq_of_beq_eq_true h1.1
  have ek : am_ak q.1 = 3 := Nat.eq_of_beq_eq_true h1.2
  have hf := am_ak_lt ek (by omega)
  obtain ⟨h, hi, hrf⟩ := am_gr_some (o := o) h
  obtain ⟨h3, h⟩ := am_g_some h
  have hvi := am_in_iff.mp h3
  obtain ⟨hnv, h4⟩ := am_g_some h
  show W p l e R s m args below meth c H locs 0 0 _ (F0 m pc ls (am_cv o (.inr (.inr (v1, v2))) :: .int y :: am_cv o (.inr (.inr q)) :: r.map (am_cv o)))
  rw [show am_cv o (.inr (.inr q)) = .ref (o + am_ad q.1 (am_ix q.1 q.2)) from am_cv_ref hrf]
  have he := am_wl_get (o := o) (cy := cy) (g := g) hf hi
  rw [am_ce_arr ek, am_ay_3 ek, show am_row o g q.1 (am_ix q.1 q.2) = .inr (.inr (.inr (.inr (fun j => am_rO o 5 (g q.1 (am_ix q.1 q.2) j))))) by simp only [am_row, ek]] at he
  subst ev
  by_cases hv0 : v2 < 0
  · rw [show am_cv o (.inr (.inr (5, v2))) = .null from am_cv_null (by show am_rO o 5 v2 = none; unfold am_rO; rw [if_pos hv0])]
    refine va_astqN hx hb hK hP (am_wl_D o cy g) hS _ 2 he rfl hvi hd (fun H1 locs1 hP1 _ hS1 => ?_)
    rw [am_wl_set (g' := am_up g q.1 (am_ix q.1 q.2) y.toNatClampNeg v2) hf hi (by rw [am_ce_arr ek, am_ay_3 ek, am_row_s ek, show am_rO o 5 v2 = none by unfold am_rO; rw [if_pos hv0]]) (fun f' i' z => am_ce_off z)] at hP1
    exact hk _ h4 H1 locs1 ls hP1 hS1 hl
  · have hin : am_in v2 128 = true := by
      unfold am_nv at hnv
      rw [Bool.or_eq_true] at hnv
      rcases hnv with z | z
      · exact absurd (of_decide_eq_true z) hv0
      · exact z
    have hlt : v2.toNatClampNeg < am_ct 5 := Nat.not_le.mp (fun z => (am_in_iff.mp hin) (Or.inr z))
    rw [show am_cv o (.inr (.inr (5, v2))) = .ref (o + am_ad 5 v2.toNatClampNeg) from am_cv_ref (by show am_rO o 5 v2 = _; unfold am_rO; rw [if_neg hv0])]
    have hvv := am_wl_get (o := o) (cy := cy) (g := g) (f := 5) (by omega) hlt
    rw [am_ce_obj rfl] at hvv
    refine va_astq hx hb hK hP (am_wl_D o cy g) hS _ 2 _ 3 (r := (RX3, TX3, 8)) he rfl hvv rfl hvi hd (fun H1 locs1 hP1 _ hS1 => ?_)
    rw [am_wl_set (g' := am_up g q.1 (am_ix q.1 q.2) y.toNatClampNeg v2) hf hi (by rw [am_ce_arr ek, am_ay_3 ek, am_row_s ek, show am_rO o 5 v2 = some (o + am_ad 5 v2.toNatClampNeg) by unfold am_rO; rw [if_neg hv0]]) (fun f' i' z => am_ce_off z)] at hP1
    exact hk _ h4 H1 locs1 ls hP1 hS1 hl
end AMS
end
section
section AMC
variable {p : Program} {l : Launch} {e : Env} {R : Room} {s : State} {m : MethodId} {args : Array Value} {below : List Frame} {meth : Method} {c : Code}
variable {D : va_G} {cy : Nat → ClassId} {o : Nat} {cc : ByteArray} {nL : Nat} {own : String} {rt : Option FieldType}
theorem am_SF {H : Heap} {locs : List Loc} (hS : va_S (am_A o) s.heap H locs) {t : State} (ht : t.heap = H) : va_F (am_A o) s t := ⟨by rw [ht]; exact hS.1, fun q h1 h2 => by rw [ht]; exact hS.2.1 q h1 h2⟩
theorem ok_ri (hX : am_X p l R s m args meth c D cy o cc nL own rt) {pc : Nat} (hd : decode cc pc = .ok (.ireturn, 1)) (hrt : rt = some .int) : am_OK p l e R s m args below meth c D cy o nL pc (im_ri) := by
  obtain ⟨hx, hb, hml, hr, hlocks, htab, hown, hts, hK, hxt, hZ, hl0, hRc, hRs⟩ := id hX
  intro L st g k res h hk H locs ls hP hS hl
  dsimp only [im_ri] at h
  rcases st with _ | ⟨x | x | q, _ | ⟨z, r⟩⟩ <;> try (cases h; done)
  cases h
  refine am_sz (fun hz => ?_)
  refine W.widen (k := 1) (n := 6) (Nat.zero_le _) (Nat.zero_le _) ?_
  refine vx_ret ?_
  exact W.iret (v := x) hx hb (hr.trans hrt) (fun t ht hW => ⟨⟨_, rfl, rfl⟩, by rw [ht]; exact hP, am_SF hS ht, by rw [ht]; exact hz⟩) hS.2.2 hd hlocks
theorem ok_rz (hX : am_X p l R s m args meth c D cy o cc nL own rt) {pc : Nat} (hd : decode cc pc = .ok (.ireturn, 1)) (hrt : rt = some .boolean) : am_OK p l e R s m args below meth c D cy o nL pc (im_rz) := by
  obtain ⟨hx, hb, hml, hr, hlocks, htab, hown, hts, hK, hxt, hZ, hl0, hRc, hRs⟩ := id hX
  intro L st g k res h hk H locs ls hP hS hl
  dsimp only [im_rz] at h
  rcases st with _ | ⟨x | x | q, _ | ⟨z, r⟩⟩ <;> try (cases h; done)
  dsimp only at h
  obtain ⟨h1, h⟩ := am_g_some h
  cases h
  refine am_sz (fun hz => ?_)
  refine W.widen (k := 1) (n := 6) (Nat.zero_le _) (Nat.zero_le _) ?_
  refine vx_ret ?_
  exact W.zret (v := x) hx hb (hr.trans hrt) (am_b_nar h1).1 (fun t ht hW => ⟨⟨_, rfl, rfl⟩, by rw [ht]; exact hP, am_SF hS ht, by rw [ht]; exact hz⟩) hS.2.2 hd hlocks
theorem ok_ra (hX : am_X p l R s m args meth c D cy o cc nL own rt) {pc : Nat} {C : String} (hd : decode cc pc = .ok (.areturn, 1)) (hrt : rt = some (.object C)) : am_OK p l e R s m args below meth c D cy o nL pc (im_ra) := by
  obtain ⟨hx, hb, hml, hr, hlocks, htab, hown, hts, hK, hxt, hZ, hl0, hRc, hRs⟩ := id hX
  intro L st g k res h hk H locs ls hP hS hl
  dsimp only [im_ra] at h
  rcases st with _ | ⟨x | x | q, _ | ⟨z, r⟩⟩ <;> try (cases h; done)
  cases h
  refine am_sz (fun hz => ?_)
  refine W.widen (k := 1) (n := 6) (Nat.zero_le _) (Nat.zero_le _) ?_
  refine vx_ret ?_
  refine W.aret (v := am_cv o (.inr (.inr q))) hx hb (hr.trans hrt) (Or.inl ⟨C, rfl⟩) ?_ (fun t ht hW => ⟨⟨_, rfl, rfl⟩, by rw [ht]; exact hP, am_SF hS ht, by rw [ht]; exact hz⟩) hS.2.2 hd hlocks
  show va_rf (am_rf o q.1 q.2) = .null ∨ ∃ a, va_rf (am_rf o q.1 q.2) = .ref a
  cases am_rf o q.1 q.2 with
  | none => exact Or.inl rfl
  | some a => exact Or.inr ⟨a, rfl⟩
theorem ok_rv (hX : am_X p l R s m args meth c D cy o cc nL own rt) {pc : Nat} (hd : decode cc pc = .ok (.return_, 1)) (hrt : rt = none) : am_OK p l e R s m args below meth c D cy o nL pc (im_rv) := by
  obtain ⟨hx, hb, hml, hr, hlocks, htab, hown, hts, hK, hxt, hZ, hl0, hRc, hRs⟩ := id hX
  intro L st g k res h hk H locs ls hP hS hl
  dsimp only [im_rv] at h
  rcases st with _ | ⟨x, r⟩ <;> try (cases h; done)
  cases h
  refine am_sz (fun hz => ?_)
  refine W.widen (k := 1) (n := 6) (Nat.zero_le _) (Nat.zero_le _) ?_
  refine vx_ret ?_
  exact W.vret hx hb (hr.trans hrt) (fun t ht hW => ⟨⟨_, rfl, rfl⟩, by rw [ht]; exact hP, am_SF hS ht, by rw [ht]; exact hz⟩) hS.2.2 hd hlocks
theorem ok_le (hX : am_X p l R s m args meth c D cy o cc nL own rt) {pc : Nat} (hd : decode cc pc = .ok (.arraylength, 1)) : am_OK p l e R s m args below meth c D cy o nL pc (im_le) := by
  obtain ⟨hx, hb, hml, hr, hlocks, htab, hown, hts, hK, hxt, hZ, hl0, hRc, hRs⟩ := id hX
  intro L st g k res h hk H locs ls hP hS hl
  dsimp only [im_le] at h
  rcases st with _ | ⟨x | x | q, r⟩ <;> try (cases h; done)
  dsimp only at h
  obtain ⟨h1, h⟩ := am_g_some h
  rw [Bool.and_eq_true] at h1
  have k1 := Nat.le_of_ble_eq_true h1.1
  have k6 := Nat.le_of_ble_eq_true h1.2
  obtain ⟨n0, hn0⟩ : ∃ n0, am_ak q.1 = n0 + 1 := ⟨am_ak q.1 - 1, by omega⟩
  have hf := am_ak_lt (f := q.1) rfl (by omega)
  obtain ⟨h, hi, hrf⟩ := am_gr_some (o := o) h
  show W p l e R s m args below meth c H locs 0 0 _ (F0 m pc ls (am_cv o (.inr (.inr q)) :: r.map (am_cv o)))
  rw [show am_cv o (.inr (.inr q)) = .ref (o + am_ad q.1 (am_ix q.1 q.2)) from am_cv_ref hrf]
  have he := am_wl_get (o := o) (cy := cy) (g := g) hf hi
  rw [am_ce_arr hn0] at he
  have h2 := hk _ h H locs ls hP hS hl
  have hay : ∀ f, f < 46 → am_ay f < 5 := by decide
  have ht : ∀ n, n < 5 → ∃ ty, (am_ty cy)[n]? = some (cy n, ty) := fun n hn => by
    have : n = 0 ∨ n = 1 ∨ n = 2 ∨ n = 3 ∨ n = 4 := by omega
    rcases this with rfl | rfl | rfl | rfl | rfl <;> exact ⟨_, rfl⟩
  obtain ⟨ty, hty⟩ := ht _ (hay q.1 hf)
  exact va_alen hx hb hK hP _ _ he hty rfl hd h2
theorem am_ws_eq {o : Nat} : ∀ st : List am_v, ((st.map (am_cv o)).map fun v => v.category).sum = am_ws st := by
  intro st
  induction st with
  | nil => rfl
  | cons a r ih =>
    rw [List.map_cons, List.map_cons, List.sum_cons, ih]
    rcases a with x | x | q
    · rfl
    · rfl
    · have := am_cat o (am_c1r q)
      rw [this]
      rfl
/-- what holds of a callee: its contract, its words, its room -/
def am_Ce (l : Launch) (R : Room) (own : String) (idx : Nat) (y : MethodName) (bytes : ByteArray) (maxL : Nat) (ret : Option FieldType) (rm : Room) (n : Nat) (F : am_C) : Prop :=
  am_Ct l y bytes maxL ret rm F ∧ Cond.methodLink own idx y ∈ am_TB ∧ Cond.code y bytes maxL ret ∈ am_TB ∧ Cond.initialized y.cls ∈ am_TB ∧ (y.cls ≠ "java/lang/invoke/MethodHandle" ∧ y.cls ≠ "java/lang/invoke/VarHandle") ∧ (parseMethodDescriptor y.desc).map (fun d => d.parameters.length) = some n ∧
  (rm.cells = 1 ∧ rm.slots = 6 ∧ rm.frames + 1 ≤ R.frames ∧ 8 + (maxL + 11) + rm.locals ≤ R.locals)
theorem am_callB {idx n maxL : Nat} {y : MethodName} {bytes : ByteArray} {ret : Option FieldType} {rm : Room} {F : am_C} (hts : ∀ w ∈ am_TB, w.before args s = true) (h : am_Ce l R own idx y bytes maxL ret rm n F) :
    CallB R s args own idx y bytes maxL ret (Cond.code y bytes maxL ret :: am_TB) rm 1 6 n := by
  obtain ⟨-, h1, h2, h3, h4, h5, h6, h7, h8, h9⟩ := h
  refine ⟨h6, h7, h8, h9, fun w hw a' U hW => ?_, List.mem_cons_self, hts _ h2, hts _ h3, h4, fun sig hs => ?_, hts _ h1⟩
  · rcases List.mem_cons.mp hw with rfl | hw
    · exact am_tb_warm hts _ h2 a' U hW
    · exact am_tb_warm hts _ hw a' U hW
  · rw [hs] at h5
    exact (Option.some.inj h5).symm
theorem am_blind {as : List am_v} {g : am_S} : FrameBlind (am_Pc D cy o as g) := by
  intro a U gg mk hp
  obtain ⟨h0, h1, h2, h3, h4⟩ := hp
  exact ⟨h0, va_K.moved (u := U) (U := U.calling gg mk a) (Vm.Alike.refl U.vm) h1, am_xt.same (u := U) (U := U.calling gg mk a) rfl h2, ⟨vx_Zq.moved (u := U) (U := U.calling gg mk a) (Vm.Alike.refl U.vm) h3.1, vx_Zq.moved (u := U) (U := U.calling gg mk a) (Vm.Alike.refl U.vm) h3.2⟩, h4⟩
theorem am_pre {H : Heap} {locs : List Loc} {as : List am_v} {g : am_S} (hX : am_X p l R s m args meth c D cy o cc nL own rt) (hP : va_P D vwCl (am_wl o cy g) H) (hS : va_S (am_A o) s.heap H locs) {U : State} (hU : U.heap = H) (hW : s.WarmedH U.vm) : am_Pc D cy o as g (as.map (am_cv o)).toArray U := by
  obtain ⟨hx, hb, hml, hr, hlocks, htab, hown, hts, hK, hxt, hZ, hl0, hRc, hRs⟩ := hX
  refine ⟨rfl, va_K.moved hW.alike hK, hxt.warm hW, ?_, by rw [hU]; exact hP⟩
  rw [hU]
  exact ⟨vx_Zq.moved hW.alike (hZ.1.kept hS.2.1), vx_Zq.moved hW.alike (hZ.2.kept hS.2.1)⟩
theorem am_S2 {H : Heap} {locs L' : List Loc} {st₀ t : State} (hS : va_S (am_A o) s.heap H locs) (h0 : st₀.heap = H) (hF : va_F (am_A o) st₀ t) (hL : ∀ q ∈ L', am_A o q.base) : va_S (am_A o) s.heap t.heap (locs ++ L') := by
  refine ⟨Nat.le_trans hS.1 (by rw [← h0]; exact hF.1), fun q h1 h2 => ?_, fun q hq => ?_⟩
  · rw [hF.2 q (by rw [h0]; exact Nat.lt_of_lt_of_le h1 hS.1) h2, h0]
    exact hS.2.1 q h1 h2
  · rcases List.mem_append.mp hq with z | z
    · exact hS.2.2 q z
    · exact hL q z
/-- behind a call: what the callee's run says, the caller goes on from -/
theorem am_after (hX : am_X p l R s m args meth c D cy o cc nL own rt) {pc : Nat} {L : List (Option am_v)} {H : Heap} {locs : List Loc} {ls : Array Slot} {r : List am_v} {st0 : List Value} {rr : am_O} {g' : am_S} {res : am_O × am_S} {a : Array Value}
    (hS : va_S (am_A o) s.heap H locs) (hl : lv_has ls nL (am_ll o 0 L))
    (hrun : vx_Run p l e R s m args below meth c H locs 0 0 1 6 (F0 m pc ls st0) (r.map (am_cv o)) (am_Qc D cy o rr g' a) (am_Xc D cy o rr g') (am_A o))
    (hv : ∀ v, rr = .inl v → am_G p l e R s m args below meth c D cy o nL res (pc + 3, L, v.toList ++ r, g'))
    (ht : ∀ n, rr = .inr n → res = (.inr n, g')) :
    W p l e R s m args below meth c H locs 0 0 (vx_MQ below (am_Qc D cy o res.1 res.2) (am_Xc D cy o res.1 res.2) args s 1 6 (am_A o)) (F0 m pc ls st0) := by
  obtain ⟨hx, hb, hml, hr, hlocks, htab, hown, hts, hK, hxt, hZ, hl0, hRc, hRs⟩ := id hX
  refine am_sz (fun hz => ?_)
  intro T hT X
  rcases hrun T hT X with ⟨v, st₀, t, T', L', h0, X', hL, e1, e2, hq, st⟩ | ⟨q, st₀, t, T', L', E, ce, h0, X', hL, e1, e2, hxc, hce, hcv, hcl, st⟩
  · obtain ⟨⟨w, hw, hv2⟩, hP2, hF2, hsz⟩ := hq
    cases hv2
    have hsz2 : T'.heap.size = s.heap.size := by rw [e1, hsz, h0, hz]
    have X2 := am_tight X' hsz2
    obtain ⟨t2, a1, b1⟩ := hv w hw t.heap (locs ++ L') ls hP2 (am_S2 hS h0 hF2 hL) hl T' e1 X2
    refine ⟨t2, st t2 ?_, b1⟩
    have es : (w.toList ++ r).map (am_cv o) = (w.map (am_cv o)).toList ++ r.map (am_cv o) := by cases w <;> simp
    rw [show (pc + 3, L, w.toList ++ r, g').2.2.1 = w.toList ++ r from rfl, es] at a1
    exact a1
  · obtain ⟨⟨n, hn, hE⟩, hP2, hF2⟩ := hxc
    have hres := ht n hn
    subst hres
    have hS2 := am_S2 hS h0 hF2 hL
    have ho : vx_W p l e R s m args below meth c t.heap (locs ++ L') (0 + 1) (0 + 6) (vx_MQ below (am_Qc D cy o (.inr n) g') (am_Xc D cy o (.inr n) g') args s 1 6 (am_A o)) (F0 m pc ls (r.map (am_cv o))) q :=
      vx_out (E := E) (ce := ce) (fun x hx9 => (htab x hx9).elim) hlocks hce hcv hcl (fun u hu _ => ⟨⟨n, rfl, hE⟩, by rw [hu]; exact hP2, am_SF hS2 hu⟩) hS2.2.2 (Nat.le_refl _) (Nat.le_refl _)
    obtain ⟨t2, a1, b1⟩ := ho T' e1 X'
    exact ⟨t2, st.trans a1, b1⟩
theorem am_stk {o : Nat} {st : List am_v} {n : Nat} (h : (st.take n).length = n) : st.map (am_cv o) = (((st.take n).reverse).map (am_cv o)).reverse ++ (st.drop n).map (am_cv o) := by
  rw [List.map_reverse, List.reverse_reverse, ← List.map_append, List.take_append_drop]

theorem ok_vI (hX : am_X p l R s m args meth c D cy o cc nL own rt) {pc : Nat} {idx f n maxL N : Nat} {y : MethodName} {bytes : ByteArray} {ret : Option FieldType} {rm : Room} {F : am_C} {T : u_T} (hC : am_Ce l R own idx y bytes maxL ret rm n F) (hd : decode cc pc = .ok (.invokevirtual idx, 3)) (hin : Cond.instanceMethod y ∈ am_TB) (hse : Cond.selects y.cls y y ∈ am_TB) (hf : f < 46) (hak : am_ak f = 0) (hcl : vwCl[am_cl f]? = some (y.cls, T, N)) : am_OK p l e R s m args below meth c D cy o nL pc (im_vI f n F) := by
  obtain ⟨hx, hb, hml, hr, hlocks, htab, hown, hts, hK, hxt, hZ, hl0, hRc, hRs⟩ := id hX
  intro L st g k res h hk H locs ls hP hS hl
  dsimp only [im_vI] at h
  rcases hdr : st.drop n with _ | ⟨x | x | q, r⟩ <;> rw [hdr] at h <;> try (cases h; done)
  dsimp only at h
  obtain ⟨h1, h⟩ := am_g_some h
  rw [Bool.and_eq_true, Bool.and_eq_true] at h1
  have eq0 := Nat.eq_of_beq_eq_true h1.1
  have hws : am_ws r ≤ 8 := Nat.le_of_ble_eq_true h1.2.1
  have hlen := Nat.eq_of_beq_eq_true h1.2.2
  obtain ⟨h, hi, hrf⟩ := am_gr_some (o := o) h
  have ecv : am_cv o (.inr (.inr (f, q.2))) = .ref (o + am_ad f (am_ix f q.2)) := am_cv_ref hrf
  have he := am_wl_get (o := o) (cy := cy) (g := g) hf hi
  rw [am_ce_obj hak] at he
  have hstk : st.map (am_cv o) = (((st.take n).reverse).map (am_cv o)).reverse ++ .ref (o + am_ad f (am_ix f q.2)) :: r.map (am_cv o) := by
    rw [am_stk hlen, hdr, List.map_cons, ← ecv, ← eq0]
  have hrun : ∀ (rr : am_O) (g' : am_S), F (.inr (.inr (f, q.2)) :: (st.take n).reverse) g = some (rr, g') → vx_Run p l e R s m args below meth c H locs 0 0 1 6 (F0 m pc ls (st.map (am_cv o))) (r.map (am_cv o)) (am_Qc D cy o rr g' (Value.ref (o + am_ad f (am_ix f q.2)) :: ((st.take n).reverse).map (am_cv o)).toArray) (am_Xc D cy o rr g') (am_A o) := fun rr g' hF =>
    vx_runV (As := ((st.take n).reverse).map (am_cv o)) (C := y.cls) ⟨hx, hb, hml, hown, hts⟩ (hC.1 D cy o _ g g' rr hF) ⟨am_callB hts hC, hts _ hin, hts _ hse⟩
      ⟨am_blind, va_recv hK hP hcl he, fun U hU hW => by rw [← ecv, ← List.map_cons]; exact am_pre hX hP hS hU hW⟩ rfl (by rw [List.length_map, List.length_reverse]; exact hlen) hl.1 hstk (lv_room (by rw [am_ws_eq]; exact hws)) hd ⟨by omega, by omega⟩
  rcases hF : F (.inr (.inr (f, q.2)) :: (st.take n).reverse) g with _ | ⟨(_ | v) | e9, g'⟩ <;> rw [hF] at h <;> try (cases h; done)
  · rcases v with x | x | z <;> try (cases h; done)
    refine am_after hX hS hl (hrun _ _ hF) (fun v hv => ?_) (fun n9 hn => by cases hn)
    cases hv
    exact hk _ h
  · cases h
    exact am_after hX hS hl (hrun _ _ hF) (fun v hv => by cases hv) (fun n9 hn => by cases hn; rfl)
theorem ok_vV (hX : am_X p l R s m args meth c D cy o cc nL own rt) {pc : Nat} {idx f n maxL N : Nat} {y : MethodName} {bytes : ByteArray} {ret : Option FieldType} {rm : Room} {F : am_C} {T : u_T} (hC : am_Ce l R own idx y bytes maxL ret rm n F) (hd : decode cc pc = .ok (.invokevirtual idx, 3)) (hin : Cond.instanceMethod y ∈ am_TB) (hse : Cond.selects y.cls y y ∈ am_TB) (hf : f < 46) (hak : am_ak f = 0) (hcl : vwCl[am_cl f]? = some (y.cls, T, N)) : am_OK p l e R s m args below meth c D cy o nL pc (im_vV f n F) := by
  obtain ⟨hx, hb, hml, hr, hlocks, htab, hown, hts, hK, hxt, hZ, hl0, hRc, hRs⟩ := id hX
  intro L st g k res h hk H locs ls hP hS hl
  dsimp only [im_vV] at h
  rcases hdr : st.drop n with _ | ⟨x | x | q, r⟩ <;> rw [hdr] at h <;> try (cases h; done)
  dsimp only at h
  obtain ⟨h1, h⟩ := am_g_some h
  rw [Bool.and_eq_true, Bool.and_eq_true] at h1
  have eq0 := Nat.eq_of_beq_eq_true h1.1
  have hws : am_ws r ≤ 8 := Nat.le_of_ble_eq_true h1.2.1
  have hlen := Nat.eq_of_beq_eq_true h1.2.2
  obtain ⟨h, hi, hrf⟩ := am_gr_some (o := o) h
  have ecv : am_cv o (.inr (.inr (f, q.2))) = .ref (o + am_ad f (am_ix f q.2)) := am_cv_ref hrf
  have he := am_wl_get (o := o) (cy := cy) (g := g) hf hi
  rw [am_ce_obj hak] at he
  have hstk : st.map (am_cv o) = (((st.take n).reverse).map (am_cv o)).reverse ++ .ref (o + am_ad f (am_ix f q.2)) :: r.map (am_cv o) := by
    rw [am_stk hlen, hdr, List.map_cons, ← ecv, ← eq0]
  have hrun : ∀ (rr : am_O) (g' : am_S), F (.inr (.inr (f, q.2)) :: (st.take n).reverse) g = some (rr, g') → vx_Run p l e R s m args below meth c H locs 0 0 1 6 (F0 m pc ls (st.map (am_cv o))) (r.map (am_cv o)) (am_Qc D cy o rr g' (Value.ref (o + am_ad f (am_ix f q.2)) :: ((st.take n).reverse).map (am_cv o)).toArray) (am_Xc D cy o rr g') (am_A o) := fun rr g' hF =>
    vx_runV (As := ((st.take n).reverse).map (am_cv o)) (C := y.cls) ⟨hx, hb, hml, hown, hts⟩ (hC.1 D cy o _ g g' rr hF) ⟨am_callB hts hC, hts _ hin, hts _ hse⟩
      ⟨am_blind, va_recv hK hP hcl he, fun U hU hW => by rw [← ecv, ← List.map_cons]; exact am_pre hX hP hS hU hW⟩ rfl (by rw [List.length_map, List.length_reverse]; exact hlen) hl.1 hstk (lv_room (by rw [am_ws_eq]; exact hws)) hd ⟨by omega, by omega⟩
  rcases hF : F (.inr (.inr (f, q.2)) :: (st.take n).reverse) g with _ | ⟨(_ | v) | e9, g'⟩ <;> rw [hF] at h <;> try (cases h; done)
  · refine am_after hX hS hl (hrun _ _ hF) (fun v hv => ?_) (fun n9 hn => by cases hn)
    cases hv
    exact hk _ h
  · cases h
    exact am_after hX hS hl (hrun _ _ hF) (fun v hv => by cases hv) (fun n9 hn => by cases hn; rfl)
theorem ok_vA (hX : am_X p l R s m args meth c D cy o cc nL own rt) {pc : Nat} {h0 : Nat} {idx f n maxL N : Nat} {y : MethodName} {bytes : ByteArray} {ret : Option FieldType} {rm : Room} {F : am_C} {T : u_T} (hC : am_Ce l R own idx y bytes maxL ret rm n F) (hd : decode cc pc = .ok (.invokevirtual idx, 3)) (hin : Cond.instanceMethod y ∈ am_TB) (hse : Cond.selects y.cls y y ∈ am_TB) (hf : f < 46) (hak : am_ak f = 0) (hcl : vwCl[am_cl f]? = some (y.cls, T, N)) : am_OK p l e R s m args below meth c D cy o nL pc (im_vA h0 f n F) := by
  obtain ⟨hx, hb, hml, hr, hlocks, htab, hown, hts, hK, hxt, hZ, hl0, hRc, hRs⟩ := id hX
  intro L st g k res h hk H locs ls hP hS hl
  dsimp only [im_vA] at h
  rcases hdr : st.drop n with _ | ⟨x | x | q, r⟩ <;> rw [hdr] at h <;> try (cases h; done)
  dsimp only at h
  obtain ⟨h1, h⟩ := am_g_some h
  rw [Bool.and_eq_true, Bool.and_eq_true] at h1
  have eq0 := Nat.eq_of_beq_eq_true h1.1
  have hws : am_ws r ≤ 8 := Nat.le_of_ble_eq_true h1.2.1
  have hlen := Nat.eq_of_beq_eq_true h1.2.2
  obtain ⟨h, hi, hrf⟩ := am_gr_some (o := o) h
  have ecv : am_cv o (.inr (.inr (f, q.2))) = .ref (o + am_ad f (am_ix f q.2)) := am_cv_ref hrf
  have he := am_wl_get (o := o) (cy := cy) (g := g) hf hi
  rw [am_ce_obj hak] at he
  have hstk : st.map (am_cv o) = (((st.take n).reverse).map (am_cv o)).reverse ++ .ref (o + am_ad f (am_ix f q.2)) :: r.map (am_cv o) := by
    rw [am_stk hlen, hdr, List.map_cons, ← ecv, ← eq0]
  have hrun : ∀ (rr : am_O) (g' : am_S), F (.inr (.inr (f, q.2)) :: (st.take n).reverse) g = some (rr, g') → vx_Run p l e R s m args below meth c H locs 0 0 1 6 (F0 m pc ls (st.map (am_cv o))) (r.map (am_cv o)) (am_Qc D cy o rr g' (Value.ref (o + am_ad f (am_ix f q.2)) :: ((st.take n).reverse).map (am_cv o)).toArray) (am_Xc D cy o rr g') (am_A o) := fun rr g' hF =>
    vx_runV (As := ((st.take n).reverse).map (am_cv o)) (C := y.cls) ⟨hx, hb, hml, hown, hts⟩ (hC.1 D cy o _ g g' rr hF) ⟨am_callB hts hC, hts _ hin, hts _ hse⟩
      ⟨am_blind, va_recv hK hP hcl he, fun U hU hW => by rw [← ecv, ← List.map_cons]; exact am_pre hX hP hS hU hW⟩ rfl (by rw [List.length_map, List.length_reverse]; exact hlen) hl.1 hstk (lv_room (by rw [am_ws_eq]; exact hws)) hd ⟨by omega, by omega⟩
  rcases hF : F (.inr (.inr (f, q.2)) :: (st.take n).reverse) g with _ | ⟨(_ | v) | e9, g'⟩ <;> rw [hF] at h <;> try (cases h; done)
  · rcases v with x | x | z <;> try (cases h; done)
    obtain ⟨z1, z2⟩ := z
    dsimp only [am_bA] at h
    obtain ⟨h9, h⟩ := am_g_some h
    have e9 := Nat.eq_of_beq_eq_true h9
    subst e9
    refine am_after hX hS hl (hrun _ _ hF) (fun v hv => ?_) (fun n9 hn => by cases hn)
    cases hv
    exact hk _ h
  · cases h
    exact am_after hX hS hl (hrun _ _ hF) (fun v hv => by cases hv) (fun n9 hn => by cases hn; rfl)
theorem ok_sI (hX : am_X p l R s m args meth c D cy o cc nL own rt) {pc : Nat} {idx n maxL : Nat} {y : MethodName} {bytes : ByteArray} {ret : Option FieldType} {rm : Room} {F : am_C} (hC : am_Ce l R own idx y bytes maxL ret rm n F) (hd : decode cc pc = .ok (.invokestatic idx, 3)) (hst : Cond.static y ∈ am_TB) : am_OK p l e R s m args below meth c D cy o nL pc (im_sI n F) := by
  obtain ⟨hx, hb, hml, hr, hlocks, htab, hown, hts, hK, hxt, hZ, hl0, hRc, hRs⟩ := id hX
  intro L st g k res h hk H locs ls hP hS hl
  dsimp only [im_sI] at h
  obtain ⟨h1, h⟩ := am_g_some h
  rw [Bool.and_eq_true] at h1
  have hws : am_ws (st.drop n) ≤ 8 := Nat.le_of_ble_eq_true h1.1
  have hlen := Nat.eq_of_beq_eq_true h1.2
  have hrun : ∀ (rr : am_O) (g' : am_S), F (st.take n).reverse g = some (rr, g') → vx_Run p l e R s m args below meth c H locs 0 0 1 6 (F0 m pc ls (st.map (am_cv o))) ((st.drop n).map (am_cv o)) (am_Qc D cy o rr g' (((st.take n).reverse).map (am_cv o)).toArray) (am_Xc D cy o rr g') (am_A o) := fun rr g' hF =>
    vx_runS (As := ((st.take n).reverse).map (am_cv o)) ⟨hx, hb, hml, hown, hts⟩ (hC.1 D cy o _ g g' rr hF) ⟨am_callB hts hC, hts _ hst⟩
      ⟨am_blind, fun U hU hW => am_pre hX hP hS hU hW⟩ rfl (by rw [List.length_map, List.length_reverse]; exact hlen) hl.1 (am_stk hlen) (lv_room (by rw [am_ws_eq]; exact hws)) hd ⟨by omega, by omega⟩
  rcases hF : F (st.take n).reverse g with _ | ⟨(_ | v) | e9, g'⟩ <;> rw [hF] at h <;> try (cases h; done)
  · rcases v with x | x | z <;> try (cases h; done)
    refine am_after hX hS hl (hrun _ _ hF) (fun v hv => ?_) (fun n9 hn => by cases hn)
    cases hv
    exact hk _ h
  · cases h
    exact am_after hX hS hl (hrun _ _ hF) (fun v hv => by cases hv) (fun n9 hn => by cases hn; rfl)
/-- the words of a throw -/
def am_Tw (ik ic n : Nat) : Prop := Cond.classLink "SheetKernel" ik (am_en n) ∈ am_TB ∧ Cond.initialized (am_en n) ∈ am_TB ∧ am_en n ∈ am_exC ∧
  (∀ w ∈ (vx_atS "SheetKernel" ic (am_en n) ["java/lang/RuntimeException", "java/lang/Exception"]).filter goodWord, w ∈ am_TB) ∧
  (∀ w ∈ (vx_atS "SheetKernel" ic (am_en n) ["java/lang/RuntimeException", "java/lang/Exception"]).filter (fun w => !goodWord w), w ∈ [Cond.castable (am_en n) (am_en n), .declares ⟨"java/lang/RuntimeException", "<init>", "(Ljava/lang/String;)V"⟩, .declares ⟨"java/lang/Exception", "<init>", "(Ljava/lang/String;)V"⟩, .declares ⟨"java/lang/Throwable", "<init>", "(Ljava/lang/String;)V"⟩]) ∧
  (∀ w ∈ Cond.classLink "SheetKernel" ik (am_en n) :: Cond.initialized (am_en n) :: vx_atS "SheetKernel" ic (am_en n) ["java/lang/RuntimeException", "java/lang/Exception"], vx_ot w = true) ∧ Bundle.fit (am_en n) = true
theorem am_tw_at {ik ic n : Nat} (hw : am_Tw ik ic n) (hts : ∀ w ∈ am_TB, w.before args s = true) (hxt : am_xt s) : ∀ w ∈ vx_atS "SheetKernel" ic (am_en n) ["java/lang/RuntimeException", "java/lang/Exception"], w.before args s = true := by
  obtain ⟨h1, h2, h3, h4, h5, h6, h7⟩ := hw
  refine vx_hat (fun w hw => hts w (h4 w hw)) h5 ?_
  exact vx_c ((hxt.1 _ h3).use rfl) (vx_c ((hxt.2.1 _ (by decide)).use rfl) (vx_c ((hxt.2.1 _ (by decide)).use rfl) (vx_c ((hxt.2.1 _ (by decide)).use rfl) vx_n)))
theorem ok_thS (hX : am_X p l R s m args meth c D cy o cc nL own rt) {pc : Nat} {ik is ic n : Nat} {text : String} (hown0 : own = "SheetKernel") (hw : am_Tw ik ic n) (hst : (is, text) ∈ am_sts) (d0 : decode cc pc = .ok (.new ik, 3)) (d3 : decode cc (pc + 3) = .ok (.dup, 1)) (d4 : decode cc (pc + 4) = .ok (.ldc is, 2)) (d6 : decode cc (pc + 6) = .ok (.invokespecial ic, 3)) (d9 : decode cc (pc + 9) = .ok (.athrow, 1)) (hR : 5 < R.frames ∧ 90 ≤ R.locals) : am_OK p l e R s m args below meth c D cy o nL pc (im_th n) := by
  obtain ⟨hx, hb, hml, hr, hlocks, htab, hown, hts, hK, hxt, hZ, hl0, hRc, hRs⟩ := id hX
  intro L st g k res h hk H locs ls hP hS hl
  dsimp only [im_th] at h
  cases hws : Nat.ble (am_ws st) 8 with
  | false => rw [hws] at h; cases h
  | true =>
    rw [hws] at h
    cases h
    subst hown0
    have h8 : am_ws st ≤ 8 := Nat.le_of_ble_eq_true hws
    obtain ⟨sa, hsa⟩ := hxt.2.2 _ hst
    exact vx_throwS hx hb hl0 hown hw.2.2.2.2.2.2 (by decide) (hts _ hw.1) (hts _ hw.2.1) hsa (am_tw_at hw hts hxt) hw.2.2.2.2.2.1 hZ.1 hZ.2 hS (hl.1.trans hml.symm) d0 d3 d4 d6 d9 (fun x z => (htab x z).elim) hR.1 (by show ((st.map (am_cv o)).map fun v => v.category).sum + (13 * 3 + 43) ≤ _; rw [am_ws_eq]; omega) (by omega) (by omega) hlocks
      (fun t ht h1 h2 => ⟨⟨n, rfl, rfl⟩, hP.kept (fun k9 q hq => h2 q.1 (vx_lt hP hq)), Nat.le_trans hS.1 h1, fun q a1 a2 => by rw [h2 q (Nat.lt_of_lt_of_le a1 hS.1)]; exact hS.2.1 q a1 a2⟩) hS.2.2 (Nat.le_refl _) (Nat.le_refl _)
theorem ok_thW (hX : am_X p l R s m args meth c D cy o cc nL own rt) {pc : Nat} {ik is ic n : Nat} {text : String} (hown0 : own = "SheetKernel") (hw : am_Tw ik ic n) (hst : (is, text) ∈ am_sts) (d0 : decode cc pc = .ok (.new ik, 3)) (d3 : decode cc (pc + 3) = .ok (.dup, 1)) (d4 : decode cc (pc + 4) = .ok (.ldc_w is, 3)) (d6 : decode cc (pc + 7) = .ok (.invokespecial ic, 3)) (d9 : decode cc (pc + 10) = .ok (.athrow, 1)) (hR : 5 < R.frames ∧ 90 ≤ R.locals) : am_OK p l e R s m args below meth c D cy o nL pc (im_th n) := by
  obtain ⟨hx, hb, hml, hr, hlocks, htab, hown, hts, hK, hxt, hZ, hl0, hRc, hRs⟩ := id hX
  intro L st g k res h hk H locs ls hP hS hl
  dsimp only [im_th] at h
  cases hws : Nat.ble (am_ws st) 8 with
  | false => rw [hws] at h; cases h
  | true =>
    rw [hws] at h
    cases h
    subst hown0
    have h8 : am_ws st ≤ 8 := Nat.le_of_ble_eq_true hws
    obtain ⟨sa, hsa⟩ := hxt.2.2 _ hst
    exact vx_throwSW hx hb hl0 hown hw.2.2.2.2.2.2 (by decide) (hts _ hw.1) (hts _ hw.2.1) hsa (am_tw_at hw hts hxt) hw.2.2.2.2.2.1 hZ.1 hZ.2 hS (hl.1.trans hml.symm) d0 d3 d4 d6 d9 (fun x z => (htab x z).elim) hR.1 (by show ((st.map (am_cv o)).map fun v => v.category).sum + (13 * 3 + 43) ≤ _; rw [am_ws_eq]; omega) (by omega) (by omega) hlocks
      (fun t ht h1 h2 => ⟨⟨n, rfl, rfl⟩, hP.kept (fun k9 q hq => h2 q.1 (vx_lt hP hq)), Nat.le_trans hS.1 h1, fun q a1 a2 => by rw [h2 q (Nat.lt_of_lt_of_le a1 hS.1)]; exact hS.2.1 q a1 a2⟩) hS.2.2 (Nat.le_refl _) (Nat.le_refl _)
noncomputable def am_M (T : List (Nat × am_I)) (nL : Nat) : am_C := fun as g => am_g (Nat.ble (am_ws as) nL && Nat.beq (am_ws as) as.length) (am_E T (0, as.map some ++ List.replicate (nL - as.length) none, [], g))
theorem am_rep {o : Nat} : ∀ (n i : Nat), am_ll o i (List.replicate n none) = [] := by
  intro n
  induction n with
  | zero => intro i; rfl
  | succ n ih => intro i; exact ih (i + 1)
theorem am_ll_args {o : Nat} (t : List (Option am_v)) (ht : ∀ i, am_ll o i t = []) : ∀ (as : List am_v) (i : Nat), am_ws as = as.length → am_ll o i (as.map some ++ t) = lv_args i (as.map (am_cv o)) := by
  intro as
  induction as with
  | nil => intro i _; exact (ht i).trans (by simp [lv_args])
  | cons a r ih =>
    intro i h
    have hr : am_ws r ≥ r.length := by
      clear ih h
      induction r with
      | nil => exact Nat.le_refl _
      | cons b r ih =>
        rcases b with x | x | q <;> simp only [am_ws, List.length_cons] <;> omega
    rcases a with x | x | q
    · have h1 : am_ws r = r.length := by simp only [am_ws, List.length_cons] at h; omega
      show (i, am_cv o (.inl x)) :: am_ll o (i + 1) (r.map some ++ t) = _
      rw [ih (i + 1) h1]
      simp [lv_args, am_cv, Value.category]
    · simp only [am_ws, List.length_cons] at h
      omega
    · have h1 : am_ws r = r.length := by simp only [am_ws, List.length_cons] at h; omega
      show (i, am_cv o (.inr (.inr q))) :: am_ll o (i + 1) (r.map some ++ t) = _
      rw [ih (i + 1) h1, List.map_cons]
      have hc := am_cat o (am_c1r q)
      simp [lv_args, hc]
theorem am_sl_len {o : Nat} : ∀ as : List am_v, (lg_sl (as.map (am_cv o))).length = am_ws as := by
  intro as
  induction as with
  | nil => rfl
  | cons a r ih =>
    have e9 : lg_sl ((a :: r).map (am_cv o)) = (if (am_cv o a).category = 2 then [.val (am_cv o a), .second] else [.val (am_cv o a)]) ++ lg_sl (r.map (am_cv o)) := by simp [lg_sl]
    rw [e9, List.length_append, ih]
    rcases a with x | x | q
    · rfl
    · rfl
    · rw [am_cat o (am_c1r q)]
      rfl
theorem am_met {l : Launch} {T : List (Nat × am_I)} {y : MethodName} {bytes : ByteArray} {maxL : Nat} {ret : Option FieldType} {rm : Room} (hl : l.stackTraces = false) (hy : plainName y.cls = true) (hrm : rm.cells = 1 ∧ rm.slots = 6)
    (hT : ∀ (p : Program) (e : Env) (s : State) (m : MethodId) (args : Array Value) (below : List Frame) (meth : Method) (c : Code) (D : va_G) (cy : Nat → ClassId) (o : Nat), am_X p l rm s m args meth c D cy o bytes maxL y.cls ret → ∀ q ∈ T, am_OK p l e rm s m args below meth c D cy o maxL q.1 q.2) :
    am_Ct l y bytes maxL ret rm (am_M T maxL) := by
  intro D cy o as g g' r hF
  obtain ⟨hg, hF⟩ := am_g_some hF
  rw [Bool.and_eq_true] at hg
  have h1 : am_ws as ≤ maxL := Nat.le_of_ble_eq_true hg.1
  have h2 := Nat.eq_of_beq_eq_true hg.2
  obtain ⟨n, hn⟩ := am_E_run hF
  refine vx_ofW (cc := bytes) (maxL := maxL) (ret := ret) hy rfl ?_
  intro p e s m args below meth c s₁ B hml htab hv
  obtain ⟨rfl, hK, hxt, hZ, hP⟩ := hv
  have hts := atoms_spec (ws := Cond.code y bytes maxL ret :: am_TB) B.pre
  have hX : am_X p l rm s m (as.map (am_cv o)).toArray meth c D cy o bytes maxL y.cls ret := ⟨B.exec, B.bytes, hml, B.returns, B.notSynchronized, htab, findClass_of_methodNamed B.named, fun w hw => hts w (List.mem_cons_of_mem _ hw), hK, hxt, hZ, hl, hrm.1, hrm.2⟩
  have hG := am_sound (hT p e s m _ below meth c D cy o hX) n _ _ hn
  have hl9 := lv_entry (as.map (am_cv o)) (n := maxL) (by rw [am_sl_len]; exact h1)
  rw [lg_entry_eq]
  refine hG s.heap [] _ hP va_S.rf ?_
  have e1 : am_ll o 0 (as.map some ++ List.replicate (maxL - as.length) none) = lv_args 0 (as.map (am_cv o)) := am_ll_args _ (fun i => am_rep _ i) as 0 h2
  show lv_has _ maxL (am_ll o 0 (as.map some ++ List.replicate (maxL - as.length) none))
  rw [e1]
  exact hl9
end AMC
end
section
theorem iw0 : ∀ w ∈ u_ws RX0 TX0 3, w ∈ am_TB := fun w h => List.mem_filter.mpr ⟨(by decide +kernel : ∀ w ∈ u_ws RX0 TX0 3, w ∈ lw_tbl) w h, (by decide +kernel : ∀ w ∈ u_ws RX0 TX0 3, goodWord w = true) w h⟩
theorem iw1 : ∀ w ∈ u_ws RX1 TX1 4, w ∈ am_TB := fun w h => List.mem_filter.mpr ⟨(by decide +kernel : ∀ w ∈ u_ws RX1 TX1 4, w ∈ lw_tbl) w h, (by decide +kernel : ∀ w ∈ u_ws RX1 TX1 4, goodWord w = true) w h⟩
theorem iw2 : ∀ w ∈ u_ws RX2 TX2 4, w ∈ am_TB := fun w h => List.mem_filter.mpr ⟨(by decide +kernel : ∀ w ∈ u_ws RX2 TX2 4, w ∈ lw_tbl) w h, (by decide +kernel : ∀ w ∈ u_ws RX2 TX2 4, goodWord w = true) w h⟩
theorem iw3 : ∀ w ∈ u_ws RX3 TX3 8, w ∈ am_TB := fun w h => List.mem_filter.mpr ⟨(by decide +kernel : ∀ w ∈ u_ws RX3 TX3 8, w ∈ lw_tbl) w h, (by decide +kernel : ∀ w ∈ u_ws RX3 TX3 8, goodWord w = true) w h⟩
theorem iw4 : ∀ w ∈ u_ws RX4 TX4 3, w ∈ am_TB := fun w h => List.mem_filter.mpr ⟨(by decide +kernel : ∀ w ∈ u_ws RX4 TX4 3, w ∈ lw_tbl) w h, (by decide +kernel : ∀ w ∈ u_ws RX4 TX4 3, goodWord w = true) w h⟩
theorem iw5 : ∀ w ∈ u_ws RX5 TX5 8, w ∈ am_TB := fun w h => List.mem_filter.mpr ⟨(by decide +kernel : ∀ w ∈ u_ws RX5 TX5 8, w ∈ lw_tbl) w h, (by decide +kernel : ∀ w ∈ u_ws RX5 TX5 8, goodWord w = true) w h⟩
theorem iw6 : ∀ w ∈ u_ws RX6 TX6 5, w ∈ am_TB := fun w h => List.mem_filter.mpr ⟨(by decide +kernel : ∀ w ∈ u_ws RX6 TX6 5, w ∈ lw_tbl) w h, (by decide +kernel : ∀ w ∈ u_ws RX6 TX6 5, goodWord w = true) w h⟩
theorem iw7 : ∀ w ∈ u_ws RX7 TX7 22, w ∈ am_TB := fun w h => List.mem_filter.mpr ⟨(by decide +kernel : ∀ w ∈ u_ws RX7 TX7 22, w ∈ lw_tbl) w h, (by decide +kernel : ∀ w ∈ u_ws RX7 TX7 22, goodWord w = true) w h⟩
theorem tw_0 : Cond.selects "SheetKernel" ⟨"SheetKernel", "countPages", "()V"⟩ ⟨"SheetKernel", "countPages", "()V"⟩ ∈ am_TB := am_tb 0 (by decide +kernel) (by decide +kernel)
theorem tw_1 : Cond.selects "SheetKernel" ⟨"SheetKernel", "lowestNotLiving", "()I"⟩ ⟨"SheetKernel", "lowestNotLiving", "()I"⟩ ∈ am_TB := am_tb 1 (by decide +kernel) (by decide +kernel)
theorem tw_3 : Cond.selects "SheetKernel" ⟨"SheetKernel", "living", "(I)LSheetKernel$Task;"⟩ ⟨"SheetKernel", "living", "(I)LSheetKernel$Task;"⟩ ∈ am_TB := am_tb 3 (by decide +kernel) (by decide +kernel)
theorem tw_4 : Cond.selects "SheetKernel" ⟨"SheetKernel", "needPage", "(I)V"⟩ ⟨"SheetKernel", "needPage", "(I)V"⟩ ∈ am_TB := am_tb 4 (by decide +kernel) (by decide +kernel)
theorem tw_5 : Cond.selects "SheetKernel" ⟨"SheetKernel", "needCount", "(I)V"⟩ ⟨"SheetKernel", "needCount", "(I)V"⟩ ∈ am_TB := am_tb 5 (by decide +kernel) (by decide +kernel)
theorem tw_6 : Cond.selects "SheetKernel" ⟨"SheetKernel", "needUnmapped", "(LSheetKernel$Task;II)V"⟩ ⟨"SheetKernel", "needUnmapped", "(LSheetKernel$Task;II)V"⟩ ∈ am_TB := am_tb 6 (by decide +kernel) (by decide +kernel)
theorem tw_7 : Cond.selects "SheetKernel" ⟨"SheetKernel", "needShared", "(LSheetKernel$Task;II)V"⟩ ⟨"SheetKernel", "needShared", "(LSheetKernel$Task;II)V"⟩ ∈ am_TB := am_tb 7 (by decide +kernel) (by decide +kernel)
theorem tw_8 : Cond.selects "SheetKernel" ⟨"SheetKernel", "needMapped", "(LSheetKernel$Task;II)V"⟩ ⟨"SheetKernel", "needMapped", "(LSheetKernel$Task;II)V"⟩ ∈ am_TB := am_tb 8 (by decide +kernel) (by decide +kernel)
theorem tw_9 : Cond.selects "SheetKernel" ⟨"SheetKernel", "unmap", "(LSheetKernel$Task;I)V"⟩ ⟨"SheetKernel", "unmap", "(LSheetKernel$Task;I)V"⟩ ∈ am_TB := am_tb 9 (by decide +kernel) (by decide +kernel)
theorem tw_10 : Cond.selects "SheetKernel" ⟨"SheetKernel", "doubled", "(LSheetKernel$Task;)I"⟩ ⟨"SheetKernel", "doubled", "(LSheetKernel$Task;)I"⟩ ∈ am_TB := am_tb 10 (by decide +kernel) (by decide +kernel)
theorem tw_11 : Cond.selects "SheetKernel" ⟨"SheetKernel", "endTask", "(LSheetKernel$Task;I)V"⟩ ⟨"SheetKernel", "endTask", "(LSheetKernel$Task;I)V"⟩ ∈ am_TB := am_tb 11 (by decide +kernel) (by decide +kernel)
theorem tw_12 : Cond.selects "SheetKernel" ⟨"SheetKernel", "needAddress", "(I)V"⟩ ⟨"SheetKernel", "needAddress", "(I)V"⟩ ∈ am_TB := am_tb 12 (by decide +kernel) (by decide +kernel)
theorem tw_13 : Cond.selects "SheetKernel" ⟨"SheetKernel", "touch", "(LSheetKernel$Task;II)LSheetKernel$Sheet;"⟩ ⟨"SheetKernel", "touch", "(LSheetKernel$Task;II)LSheetKernel$Sheet;"⟩ ∈ am_TB := am_tb 13 (by decide +kernel) (by decide +kernel)
theorem tw_14 : Cond.selects "SheetKernel" ⟨"SheetKernel", "startFault", "(LSheetKernel$Task;LSheetKernel$Sheet;)Z"⟩ ⟨"SheetKernel", "startFault", "(LSheetKernel$Task;LSheetKernel$Sheet;)Z"⟩ ∈ am_TB := am_tb 14 (by decide +kernel) (by decide +kernel)
theorem tw_15 : Cond.selects "SheetKernel" ⟨"SheetKernel", "findFrame", "(LSheetKernel$Task;I)I"⟩ ⟨"SheetKernel", "findFrame", "(LSheetKernel$Task;I)I"⟩ ∈ am_TB := am_tb 15 (by decide +kernel) (by decide +kernel)
theorem tw_16 : Cond.selects "SheetKernel" ⟨"SheetKernel", "putAway", "(I)Z"⟩ ⟨"SheetKernel", "putAway", "(I)Z"⟩ ∈ am_TB := am_tb 16 (by decide +kernel) (by decide +kernel)
theorem tw_17 : Cond.selects "SheetKernel" ⟨"SheetKernel", "storeInSlots", "(LSheetKernel$Sheet;)Z"⟩ ⟨"SheetKernel", "storeInSlots", "(LSheetKernel$Sheet;)Z"⟩ ∈ am_TB := am_tb 17 (by decide +kernel) (by decide +kernel)
theorem tw_18 : Cond.selects "SheetKernel" ⟨"SheetKernel", "isValuable", "(LSheetKernel$Sheet;)Z"⟩ ⟨"SheetKernel", "isValuable", "(LSheetKernel$Sheet;)Z"⟩ ∈ am_TB := am_tb 18 (by decide +kernel) (by decide +kernel)
theorem tw_19 : Cond.selects "SheetKernel" ⟨"SheetKernel", "whoEnds", "(LSheetKernel$Task;)LSheetKernel$Task;"⟩ ⟨"SheetKernel", "whoEnds", "(LSheetKernel$Task;)LSheetKernel$Task;"⟩ ∈ am_TB := am_tb 19 (by decide +kernel) (by decide +kernel)
theorem tw_20 : Cond.selects "SheetKernel" ⟨"SheetKernel", "bringIn", "(LSheetKernel$Sheet;I)V"⟩ ⟨"SheetKernel", "bringIn", "(LSheetKernel$Sheet;I)V"⟩ ∈ am_TB := am_tb 20 (by decide +kernel) (by decide +kernel)
theorem tw_21 : Cond.selects "SheetKernel" ⟨"SheetKernel", "copyInto", "(LSheetKernel$Task;II)LSheetKernel$Sheet;"⟩ ⟨"SheetKernel", "copyInto", "(LSheetKernel$Task;II)LSheetKernel$Sheet;"⟩ ∈ am_TB := am_tb 21 (by decide +kernel) (by decide +kernel)
theorem tw_22 : Cond.selects "SheetKernel" ⟨"SheetKernel", "throwUntouched", "(LSheetKernel$Task;)V"⟩ ⟨"SheetKernel", "throwUntouched", "(LSheetKernel$Task;)V"⟩ ∈ am_TB := am_tb 22 (by decide +kernel) (by decide +kernel)
theorem tw_23 : Cond.selects "SheetKernel" ⟨"SheetKernel", "put", "(IIII)V"⟩ ⟨"SheetKernel", "put", "(IIII)V"⟩ ∈ am_TB := am_tb 23 (by decide +kernel) (by decide +kernel)
theorem tw_24 : Cond.selects "SheetKernel" ⟨"SheetKernel", "endRefused", "(LSheetKernel$Task;)V"⟩ ⟨"SheetKernel", "endRefused", "(LSheetKernel$Task;)V"⟩ ∈ am_TB := am_tb 24 (by decide +kernel) (by decide +kernel)
theorem tw_25 : Cond.selects "SheetKernel" ⟨"SheetKernel", "perform", "(LSheetKernel$Task;I)V"⟩ ⟨"SheetKernel", "perform", "(LSheetKernel$Task;I)V"⟩ ∈ am_TB := am_tb 25 (by decide +kernel) (by decide +kernel)
theorem tw_26 : Cond.selects "SheetKernel" ⟨"SheetKernel", "forkInto", "(LSheetKernel$Task;I)V"⟩ ⟨"SheetKernel", "forkInto", "(LSheetKernel$Task;I)V"⟩ ∈ am_TB := am_tb 26 (by decide +kernel) (by decide +kernel)
theorem tw_27 : Cond.selects "SheetKernelModel" ⟨"SheetKernelModel", "fresh", "()I"⟩ ⟨"SheetKernelModel", "fresh", "()I"⟩ ∈ am_TB := am_tb 27 (by decide +kernel) (by decide +kernel)
theorem tw_28 : Cond.selects "SheetKernelModel" ⟨"SheetKernelModel", "isLiving", "(I)Z"⟩ ⟨"SheetKernelModel", "isLiving", "(I)Z"⟩ ∈ am_TB := am_tb 28 (by decide +kernel) (by decide +kernel)
theorem tw_29 : Cond.selects "SheetKernelModel" ⟨"SheetKernelModel", "areFree", "(III)Z"⟩ ⟨"SheetKernelModel", "areFree", "(III)Z"⟩ ∈ am_TB := am_tb 29 (by decide +kernel) (by decide +kernel)
theorem tw_30 : Cond.selects "SheetKernelModel" ⟨"SheetKernelModel", "newSheet", "()I"⟩ ⟨"SheetKernelModel", "newSheet", "()I"⟩ ∈ am_TB := am_tb 30 (by decide +kernel) (by decide +kernel)
theorem tw_31 : Cond.selects "SheetKernelModel" ⟨"SheetKernelModel", "areMapped", "(III)Z"⟩ ⟨"SheetKernelModel", "areMapped", "(III)Z"⟩ ∈ am_TB := am_tb 31 (by decide +kernel) (by decide +kernel)
theorem tw_32 : Cond.selects "SheetKernelModel" ⟨"SheetKernelModel", "mappings", "(I)I"⟩ ⟨"SheetKernelModel", "mappings", "(I)I"⟩ ∈ am_TB := am_tb 32 (by decide +kernel) (by decide +kernel)
theorem tw_33 : Cond.selects "SheetKernelModel" ⟨"SheetKernelModel", "unmap", "(I)V"⟩ ⟨"SheetKernelModel", "unmap", "(I)V"⟩ ∈ am_TB := am_tb 33 (by decide +kernel) (by decide +kernel)
theorem tw_34 : Cond.selects "SheetKernelModel" ⟨"SheetKernelModel", "frameOf", "(I)I"⟩ ⟨"SheetKernelModel", "frameOf", "(I)I"⟩ ∈ am_TB := am_tb 34 (by decide +kernel) (by decide +kernel)
theorem tw_35 : Cond.selects "SheetKernelModel" ⟨"SheetKernelModel", "clearFrame", "(I)V"⟩ ⟨"SheetKernelModel", "clearFrame", "(I)V"⟩ ∈ am_TB := am_tb 35 (by decide +kernel) (by decide +kernel)
theorem tw_36 : Cond.selects "SheetKernelModel" ⟨"SheetKernelModel", "freeSlots", "(I)V"⟩ ⟨"SheetKernelModel", "freeSlots", "(I)V"⟩ ∈ am_TB := am_tb 36 (by decide +kernel) (by decide +kernel)
theorem tw_37 : Cond.selects "SheetKernelModel" ⟨"SheetKernelModel", "freeSlot", "(I)V"⟩ ⟨"SheetKernelModel", "freeSlot", "(I)V"⟩ ∈ am_TB := am_tb 37 (by decide +kernel) (by decide +kernel)
theorem tw_38 : Cond.selects "SheetKernelModel" ⟨"SheetKernelModel", "divide", "(I)I"⟩ ⟨"SheetKernelModel", "divide", "(I)I"⟩ ∈ am_TB := am_tb 38 (by decide +kernel) (by decide +kernel)
theorem tw_39 : Cond.selects "SheetKernelModel" ⟨"SheetKernelModel", "end", "(II)V"⟩ ⟨"SheetKernelModel", "end", "(II)V"⟩ ∈ am_TB := am_tb 39 (by decide +kernel) (by decide +kernel)
theorem tw_40 : Cond.selects "SheetKernelModel" ⟨"SheetKernelModel", "access", "(IIZZ)I"⟩ ⟨"SheetKernelModel", "access", "(IIZZ)I"⟩ ∈ am_TB := am_tb 40 (by decide +kernel) (by decide +kernel)
theorem tw_41 : Cond.selects "SheetKernelModel" ⟨"SheetKernelModel", "touch", "(IIZZ)I"⟩ ⟨"SheetKernelModel", "touch", "(IIZZ)I"⟩ ∈ am_TB := am_tb 41 (by decide +kernel) (by decide +kernel)
theorem tw_42 : Cond.selects "SheetKernelModel" ⟨"SheetKernelModel", "bring", "(II)I"⟩ ⟨"SheetKernelModel", "bring", "(II)I"⟩ ∈ am_TB := am_tb 42 (by decide +kernel) (by decide +kernel)
theorem tw_43 : Cond.selects "SheetKernelModel" ⟨"SheetKernelModel", "isGone", "(I)Z"⟩ ⟨"SheetKernelModel", "isGone", "(I)Z"⟩ ∈ am_TB := am_tb 43 (by decide +kernel) (by decide +kernel)
theorem tw_44 : Cond.selects "SheetKernelModel" ⟨"SheetKernelModel", "slotNumber", "(II)I"⟩ ⟨"SheetKernelModel", "slotNumber", "(II)I"⟩ ∈ am_TB := am_tb 44 (by decide +kernel) (by decide +kernel)
theorem tw_45 : Cond.selects "SheetKernelModel" ⟨"SheetKernelModel", "fault", "(II)V"⟩ ⟨"SheetKernelModel", "fault", "(II)V"⟩ ∈ am_TB := am_tb 45 (by decide +kernel) (by decide +kernel)
theorem tw_46 : Cond.selects "SheetKernelModel" ⟨"SheetKernelModel", "findFrame", "(II)I"⟩ ⟨"SheetKernelModel", "findFrame", "(II)I"⟩ ∈ am_TB := am_tb 46 (by decide +kernel) (by decide +kernel)
theorem tw_47 : Cond.selects "SheetKernelModel" ⟨"SheetKernelModel", "empty", "(I)Z"⟩ ⟨"SheetKernelModel", "empty", "(I)Z"⟩ ∈ am_TB := am_tb 47 (by decide +kernel) (by decide +kernel)
theorem tw_48 : Cond.selects "SheetKernelModel" ⟨"SheetKernelModel", "packs", "(I)I"⟩ ⟨"SheetKernelModel", "packs", "(I)I"⟩ ∈ am_TB := am_tb 48 (by decide +kernel) (by decide +kernel)
theorem tw_49 : Cond.selects "SheetKernelModel" ⟨"SheetKernelModel", "room", "(I)I"⟩ ⟨"SheetKernelModel", "room", "(I)I"⟩ ∈ am_TB := am_tb 49 (by decide +kernel) (by decide +kernel)
theorem tw_50 : Cond.selects "SheetKernelModel" ⟨"SheetKernelModel", "isTaken", "(I)Z"⟩ ⟨"SheetKernelModel", "isTaken", "(I)Z"⟩ ∈ am_TB := am_tb 50 (by decide +kernel) (by decide +kernel)
theorem tw_51 : Cond.selects "SheetKernelModel" ⟨"SheetKernelModel", "writeSlot", "()I"⟩ ⟨"SheetKernelModel", "writeSlot", "()I"⟩ ∈ am_TB := am_tb 51 (by decide +kernel) (by decide +kernel)
theorem tw_52 : Cond.selects "SheetKernelModel" ⟨"SheetKernelModel", "isValuable", "(I)Z"⟩ ⟨"SheetKernelModel", "isValuable", "(I)Z"⟩ ∈ am_TB := am_tb 52 (by decide +kernel) (by decide +kernel)
theorem tw_53 : Cond.selects "SheetKernelModel" ⟨"SheetKernelModel", "goOn", "(I)V"⟩ ⟨"SheetKernelModel", "goOn", "(I)V"⟩ ∈ am_TB := am_tb 53 (by decide +kernel) (by decide +kernel)
theorem tw_54 : Cond.selects "SheetKernelModel" ⟨"SheetKernelModel", "victim", "(I)I"⟩ ⟨"SheetKernelModel", "victim", "(I)I"⟩ ∈ am_TB := am_tb 54 (by decide +kernel) (by decide +kernel)
theorem tw_55 : Cond.selects "SheetKernelModel" ⟨"SheetKernelModel", "privates", "(I)I"⟩ ⟨"SheetKernelModel", "privates", "(I)I"⟩ ∈ am_TB := am_tb 55 (by decide +kernel) (by decide +kernel)
theorem tw_56 : Cond.selects "SheetKernelModel" ⟨"SheetKernelModel", "step", "(I)V"⟩ ⟨"SheetKernelModel", "step", "(I)V"⟩ ∈ am_TB := am_tb 56 (by decide +kernel) (by decide +kernel)
theorem tw_57 : Cond.selects "SheetKernelModel" ⟨"SheetKernelModel", "reaches", "(IIZ)Z"⟩ ⟨"SheetKernelModel", "reaches", "(IIZ)Z"⟩ ∈ am_TB := am_tb 57 (by decide +kernel) (by decide +kernel)
theorem tw_58 : Cond.selects "SheetKernelModel" ⟨"SheetKernelModel", "freeFrames", "()I"⟩ ⟨"SheetKernelModel", "freeFrames", "()I"⟩ ∈ am_TB := am_tb 58 (by decide +kernel) (by decide +kernel)
theorem tw_60 : (Jvm.Cond.initialized "SheetKernel") ∈ am_TB := am_tb 60 (by decide +kernel) (by decide +kernel)
theorem tw_61 : (Jvm.Cond.initialized "SheetKernel$Sheets") ∈ am_TB := am_tb 61 (by decide +kernel) (by decide +kernel)
theorem tw_62 : (Jvm.Cond.initialized "SheetKernel$Sheet") ∈ am_TB := am_tb 62 (by decide +kernel) (by decide +kernel)
theorem tw_63 : (Jvm.Cond.initialized "SheetKernel$Frames") ∈ am_TB := am_tb 63 (by decide +kernel) (by decide +kernel)
theorem tw_64 : (Jvm.Cond.initialized "SheetKernel$Arena") ∈ am_TB := am_tb 64 (by decide +kernel) (by decide +kernel)
theorem tw_65 : (Jvm.Cond.initialized "SheetKernel$Disk") ∈ am_TB := am_tb 65 (by decide +kernel) (by decide +kernel)
theorem tw_66 : (Jvm.Cond.initialized "SheetKernel$Task") ∈ am_TB := am_tb 66 (by decide +kernel) (by decide +kernel)
theorem tw_67 : (Jvm.Cond.initialized "SheetKernelModel") ∈ am_TB := am_tb 67 (by decide +kernel) (by decide +kernel)
theorem tw_98 : (Jvm.Cond.fieldLink "SheetKernel$Sheet" (9 : Nat) "SheetKernel$Sheet" "words" "[I") ∈ am_TB := am_tb 98 (by decide +kernel) (by decide +kernel)
theorem tw_99 : (Jvm.Cond.fieldLink "SheetKernel" (130 : Nat) "SheetKernel$Sheet" "words" "[I") ∈ am_TB := am_tb 99 (by decide +kernel) (by decide +kernel)
theorem tw_100 : (Jvm.Cond.fieldLink "SheetKernel$Sheet" (15 : Nat) "SheetKernel$Sheet" "mappings" "I") ∈ am_TB := am_tb 100 (by decide +kernel) (by decide +kernel)
theorem tw_101 : (Jvm.Cond.fieldLink "SheetKernel$Task" (41 : Nat) "SheetKernel$Sheet" "mappings" "I") ∈ am_TB := am_tb 101 (by decide +kernel) (by decide +kernel)
theorem tw_102 : (Jvm.Cond.fieldLink "SheetKernel" (236 : Nat) "SheetKernel$Sheet" "mappings" "I") ∈ am_TB := am_tb 102 (by decide +kernel) (by decide +kernel)
theorem tw_103 : (Jvm.Cond.fieldLink "SheetKernel$Sheet" (19 : Nat) "SheetKernel$Sheet" "place" "I") ∈ am_TB := am_tb 103 (by decide +kernel) (by decide +kernel)
theorem tw_104 : (Jvm.Cond.fieldLink "SheetKernel$Arena" (33 : Nat) "SheetKernel$Sheet" "place" "I") ∈ am_TB := am_tb 104 (by decide +kernel) (by decide +kernel)
theorem tw_105 : (Jvm.Cond.fieldLink "SheetKernel$Frames" (28 : Nat) "SheetKernel$Sheet" "place" "I") ∈ am_TB := am_tb 105 (by decide +kernel) (by decide +kernel)
theorem tw_106 : (Jvm.Cond.fieldLink "SheetKernel$Task" (47 : Nat) "SheetKernel$Sheet" "place" "I") ∈ am_TB := am_tb 106 (by decide +kernel) (by decide +kernel)
theorem tw_107 : (Jvm.Cond.fieldLink "SheetKernel" (217 : Nat) "SheetKernel$Sheet" "place" "I") ∈ am_TB := am_tb 107 (by decide +kernel) (by decide +kernel)
theorem tw_108 : (Jvm.Cond.fieldLink "SheetKernel$Sheet" (22 : Nat) "SheetKernel$Sheet" "at" "I") ∈ am_TB := am_tb 108 (by decide +kernel) (by decide +kernel)
theorem tw_109 : (Jvm.Cond.fieldLink "SheetKernel$Arena" (36 : Nat) "SheetKernel$Sheet" "at" "I") ∈ am_TB := am_tb 109 (by decide +kernel) (by decide +kernel)
theorem tw_110 : (Jvm.Cond.fieldLink "SheetKernel$Frames" (31 : Nat) "SheetKernel$Sheet" "at" "I") ∈ am_TB := am_tb 110 (by decide +kernel) (by decide +kernel)
theorem tw_111 : (Jvm.Cond.fieldLink "SheetKernel" (220 : Nat) "SheetKernel$Sheet" "at" "I") ∈ am_TB := am_tb 111 (by decide +kernel) (by decide +kernel)
theorem tw_112 : (Jvm.Cond.fieldLink "SheetKernel$Sheet" (25 : Nat) "SheetKernel$Sheet" "bytes" "I") ∈ am_TB := am_tb 112 (by decide +kernel) (by decide +kernel)
theorem tw_113 : (Jvm.Cond.fieldLink "SheetKernel$Arena" (39 : Nat) "SheetKernel$Sheet" "bytes" "I") ∈ am_TB := am_tb 113 (by decide +kernel) (by decide +kernel)
theorem tw_114 : (Jvm.Cond.fieldLink "SheetKernel$Sheet" (28 : Nat) "SheetKernel$Sheet" "lower" "I") ∈ am_TB := am_tb 114 (by decide +kernel) (by decide +kernel)
theorem tw_115 : (Jvm.Cond.fieldLink "SheetKernel$Disk" (25 : Nat) "SheetKernel$Sheet" "lower" "I") ∈ am_TB := am_tb 115 (by decide +kernel) (by decide +kernel)
theorem tw_116 : (Jvm.Cond.fieldLink "SheetKernel" (243 : Nat) "SheetKernel$Sheet" "lower" "I") ∈ am_TB := am_tb 116 (by decide +kernel) (by decide +kernel)
theorem tw_117 : (Jvm.Cond.fieldLink "SheetKernel$Sheet" (31 : Nat) "SheetKernel$Sheet" "upper" "I") ∈ am_TB := am_tb 117 (by decide +kernel) (by decide +kernel)
theorem tw_118 : (Jvm.Cond.fieldLink "SheetKernel$Disk" (35 : Nat) "SheetKernel$Sheet" "upper" "I") ∈ am_TB := am_tb 118 (by decide +kernel) (by decide +kernel)
theorem tw_119 : (Jvm.Cond.fieldLink "SheetKernel" (248 : Nat) "SheetKernel$Sheet" "upper" "I") ∈ am_TB := am_tb 119 (by decide +kernel) (by decide +kernel)
theorem tw_121 : (Jvm.Cond.fieldLink "SheetKernel$Task" (44 : Nat) "SheetKernel$Sheet" "seen" "I") ∈ am_TB := am_tb 121 (by decide +kernel) (by decide +kernel)
theorem tw_122 : (Jvm.Cond.fieldLink "SheetKernel" (233 : Nat) "SheetKernel$Sheet" "seen" "I") ∈ am_TB := am_tb 122 (by decide +kernel) (by decide +kernel)
theorem tw_142 : (Jvm.Cond.fieldLink "SheetKernel" (230 : Nat) "SheetKernel$Sheets" "all" "[LSheetKernel$Sheet;") ∈ am_TB := am_tb 142 (by decide +kernel) (by decide +kernel)
theorem tw_143 : (Jvm.Cond.fieldLink "SheetKernel$Sheets" (17 : Nat) "SheetKernel$Sheets" "spare" "[LSheetKernel$Sheet;") ∈ am_TB := am_tb 143 (by decide +kernel) (by decide +kernel)
theorem tw_144 : (Jvm.Cond.fieldLink "SheetKernel$Sheets" (20 : Nat) "SheetKernel$Sheets" "spares" "I") ∈ am_TB := am_tb 144 (by decide +kernel) (by decide +kernel)
theorem tw_159 : (Jvm.Cond.fieldLink "SheetKernel$Frames" (11 : Nat) "SheetKernel$Frames" "sheets" "[LSheetKernel$Sheet;") ∈ am_TB := am_tb 159 (by decide +kernel) (by decide +kernel)
theorem tw_160 : (Jvm.Cond.fieldLink "SheetKernel" (201 : Nat) "SheetKernel$Frames" "sheets" "[LSheetKernel$Sheet;") ∈ am_TB := am_tb 160 (by decide +kernel) (by decide +kernel)
theorem tw_161 : (Jvm.Cond.fieldLink "SheetKernel$Frames" (17 : Nat) "SheetKernel$Frames" "used" "[Z") ∈ am_TB := am_tb 161 (by decide +kernel) (by decide +kernel)
theorem tw_162 : (Jvm.Cond.fieldLink "SheetKernel" (178 : Nat) "SheetKernel$Frames" "used" "[Z") ∈ am_TB := am_tb 162 (by decide +kernel) (by decide +kernel)
theorem tw_163 : (Jvm.Cond.fieldLink "SheetKernel$Frames" (21 : Nat) "SheetKernel$Frames" "changed" "[Z") ∈ am_TB := am_tb 163 (by decide +kernel) (by decide +kernel)
theorem tw_164 : (Jvm.Cond.fieldLink "SheetKernel" (202 : Nat) "SheetKernel$Frames" "changed" "[Z") ∈ am_TB := am_tb 164 (by decide +kernel) (by decide +kernel)
theorem tw_165 : (Jvm.Cond.fieldLink "SheetKernel$Frames" (24 : Nat) "SheetKernel$Frames" "hand" "I") ∈ am_TB := am_tb 165 (by decide +kernel) (by decide +kernel)
theorem tw_166 : (Jvm.Cond.fieldLink "SheetKernel" (181 : Nat) "SheetKernel$Frames" "hand" "I") ∈ am_TB := am_tb 166 (by decide +kernel) (by decide +kernel)
theorem tw_183 : (Jvm.Cond.fieldLink "SheetKernel$Arena" (9 : Nat) "SheetKernel$Arena" "taken" "[Z") ∈ am_TB := am_tb 183 (by decide +kernel) (by decide +kernel)
theorem tw_184 : (Jvm.Cond.fieldLink "SheetKernel$Arena" (15 : Nat) "SheetKernel$Arena" "claims" "[I") ∈ am_TB := am_tb 184 (by decide +kernel) (by decide +kernel)
theorem tw_185 : (Jvm.Cond.fieldLink "SheetKernel$Arena" (19 : Nat) "SheetKernel$Arena" "packed" "I") ∈ am_TB := am_tb 185 (by decide +kernel) (by decide +kernel)
theorem tw_186 : (Jvm.Cond.fieldLink "SheetKernel" (211 : Nat) "SheetKernel$Arena" "packed" "I") ∈ am_TB := am_tb 186 (by decide +kernel) (by decide +kernel)
theorem tw_200 : (Jvm.Cond.fieldLink "SheetKernel$Disk" (9 : Nat) "SheetKernel$Disk" "state" "[I") ∈ am_TB := am_tb 200 (by decide +kernel) (by decide +kernel)
theorem tw_201 : (Jvm.Cond.fieldLink "SheetKernel" (169 : Nat) "SheetKernel$Disk" "state" "[I") ∈ am_TB := am_tb 201 (by decide +kernel) (by decide +kernel)
theorem tw_202 : (Jvm.Cond.fieldLink "SheetKernel$Disk" (15 : Nat) "SheetKernel$Disk" "fails" "[Z") ∈ am_TB := am_tb 202 (by decide +kernel) (by decide +kernel)
theorem tw_203 : (Jvm.Cond.fieldLink "SheetKernel" (165 : Nat) "SheetKernel$Disk" "fails" "[Z") ∈ am_TB := am_tb 203 (by decide +kernel) (by decide +kernel)
theorem tw_204 : (Jvm.Cond.fieldLink "SheetKernel$Disk" (19 : Nat) "SheetKernel$Disk" "lost" "[Z") ∈ am_TB := am_tb 204 (by decide +kernel) (by decide +kernel)
theorem tw_205 : (Jvm.Cond.fieldLink "SheetKernel" (172 : Nat) "SheetKernel$Disk" "lost" "[Z") ∈ am_TB := am_tb 205 (by decide +kernel) (by decide +kernel)
theorem tw_206 : (Jvm.Cond.fieldLink "SheetKernel$Disk" (22 : Nat) "SheetKernel$Disk" "claims" "[I") ∈ am_TB := am_tb 206 (by decide +kernel) (by decide +kernel)
theorem tw_222 : (Jvm.Cond.fieldLink "SheetKernel$Task" (9 : Nat) "SheetKernel$Task" "registers" "[I") ∈ am_TB := am_tb 222 (by decide +kernel) (by decide +kernel)
theorem tw_223 : (Jvm.Cond.fieldLink "SheetKernel" (271 : Nat) "SheetKernel$Task" "registers" "[I") ∈ am_TB := am_tb 223 (by decide +kernel) (by decide +kernel)
theorem tw_224 : (Jvm.Cond.fieldLink "SheetKernel$Task" (15 : Nat) "SheetKernel$Task" "faults" "[I") ∈ am_TB := am_tb 224 (by decide +kernel) (by decide +kernel)
theorem tw_225 : (Jvm.Cond.fieldLink "SheetKernel" (190 : Nat) "SheetKernel$Task" "faults" "[I") ∈ am_TB := am_tb 225 (by decide +kernel) (by decide +kernel)
theorem tw_226 : (Jvm.Cond.fieldLink "SheetKernel$Task" (18 : Nat) "SheetKernel$Task" "kinds" "[I") ∈ am_TB := am_tb 226 (by decide +kernel) (by decide +kernel)
theorem tw_227 : (Jvm.Cond.fieldLink "SheetKernel" (197 : Nat) "SheetKernel$Task" "kinds" "[I") ∈ am_TB := am_tb 227 (by decide +kernel) (by decide +kernel)
theorem tw_228 : (Jvm.Cond.fieldLink "SheetKernel$Task" (23 : Nat) "SheetKernel$Task" "sheets" "[LSheetKernel$Sheet;") ∈ am_TB := am_tb 228 (by decide +kernel) (by decide +kernel)
theorem tw_229 : (Jvm.Cond.fieldLink "SheetKernel" (95 : Nat) "SheetKernel$Task" "sheets" "[LSheetKernel$Sheet;") ∈ am_TB := am_tb 229 (by decide +kernel) (by decide +kernel)
theorem tw_230 : (Jvm.Cond.fieldLink "SheetKernel$Task" (27 : Nat) "SheetKernel$Task" "lives" "Z") ∈ am_TB := am_tb 230 (by decide +kernel) (by decide +kernel)
theorem tw_231 : (Jvm.Cond.fieldLink "SheetKernel" (142 : Nat) "SheetKernel$Task" "lives" "Z") ∈ am_TB := am_tb 231 (by decide +kernel) (by decide +kernel)
theorem tw_232 : (Jvm.Cond.fieldLink "SheetKernel$Task" (31 : Nat) "SheetKernel$Task" "valuable" "Z") ∈ am_TB := am_tb 232 (by decide +kernel) (by decide +kernel)
theorem tw_233 : (Jvm.Cond.fieldLink "SheetKernel" (115 : Nat) "SheetKernel$Task" "valuable" "Z") ∈ am_TB := am_tb 233 (by decide +kernel) (by decide +kernel)
theorem tw_234 : (Jvm.Cond.fieldLink "SheetKernel$Task" (34 : Nat) "SheetKernel$Task" "counter" "I") ∈ am_TB := am_tb 234 (by decide +kernel) (by decide +kernel)
theorem tw_235 : (Jvm.Cond.fieldLink "SheetKernel" (145 : Nat) "SheetKernel$Task" "counter" "I") ∈ am_TB := am_tb 235 (by decide +kernel) (by decide +kernel)
theorem tw_236 : (Jvm.Cond.fieldLink "SheetKernel$Task" (38 : Nat) "SheetKernel$Task" "reason" "I") ∈ am_TB := am_tb 236 (by decide +kernel) (by decide +kernel)
theorem tw_237 : (Jvm.Cond.fieldLink "SheetKernel" (187 : Nat) "SheetKernel$Task" "reason" "I") ∈ am_TB := am_tb 237 (by decide +kernel) (by decide +kernel)
theorem tw_255 : (Jvm.Cond.fieldLink "SheetKernel" (11 : Nat) "SheetKernel" "tasks" "[LSheetKernel$Task;") ∈ am_TB := am_tb 255 (by decide +kernel) (by decide +kernel)
theorem tw_256 : (Jvm.Cond.fieldLink "SheetKernel" (18 : Nat) "SheetKernel" "store" "LSheetKernel$Sheets;") ∈ am_TB := am_tb 256 (by decide +kernel) (by decide +kernel)
theorem tw_257 : (Jvm.Cond.fieldLink "SheetKernel" (25 : Nat) "SheetKernel" "frames" "LSheetKernel$Frames;") ∈ am_TB := am_tb 257 (by decide +kernel) (by decide +kernel)
theorem tw_258 : (Jvm.Cond.fieldLink "SheetKernel" (32 : Nat) "SheetKernel" "arena" "LSheetKernel$Arena;") ∈ am_TB := am_tb 258 (by decide +kernel) (by decide +kernel)
theorem tw_259 : (Jvm.Cond.fieldLink "SheetKernel" (39 : Nat) "SheetKernel" "disk" "LSheetKernel$Disk;") ∈ am_TB := am_tb 259 (by decide +kernel) (by decide +kernel)
theorem tw_275 : (Jvm.Cond.methodLink "SheetKernel" (175 : Nat) ({ cls := "SheetKernel$Frames", name := "vacant", desc := "()I" } : Jvm.MethodName)) ∈ am_TB := am_tb 275 (by decide +kernel) (by decide +kernel)
theorem tw_276 : (Jvm.Cond.instanceMethod ({ cls := "SheetKernel$Frames", name := "vacant", desc := "()I" } : Jvm.MethodName)) ∈ am_TB := am_tb 276 (by decide +kernel) (by decide +kernel)
theorem tw_277 : (Jvm.Cond.selects "SheetKernel$Frames" ({ cls := "SheetKernel$Frames", name := "vacant", desc := "()I" } : Jvm.MethodName) ({ cls := "SheetKernel$Frames", name := "vacant", desc := "()I" } : Jvm.MethodName)) ∈ am_TB := am_tb 277 (by decide +kernel) (by decide +kernel)
theorem tw_278 : (Jvm.Cond.code ({ cls := "SheetKernel$Frames", name := "vacant", desc := "()I" } : Jvm.MethodName) prog_4_method_2_code (3 : Nat) (Option.some Jvm.ClassFile.FieldType.int)) ∈ am_TB := am_tb 278 (by decide +kernel) (by decide +kernel)
theorem tw_279 : (Jvm.Cond.methodLink "SheetKernel" (184 : Nat) ({ cls := "SheetKernel$Frames", name := "moveHand", desc := "(I)V" } : Jvm.MethodName)) ∈ am_TB := am_tb 279 (by decide +kernel) (by decide +kernel)
theorem tw_280 : (Jvm.Cond.instanceMethod ({ cls := "SheetKernel$Frames", name := "moveHand", desc := "(I)V" } : Jvm.MethodName)) ∈ am_TB := am_tb 280 (by decide +kernel) (by decide +kernel)
theorem tw_281 : (Jvm.Cond.selects "SheetKernel$Frames" ({ cls := "SheetKernel$Frames", name := "moveHand", desc := "(I)V" } : Jvm.MethodName) ({ cls := "SheetKernel$Frames", name := "moveHand", desc := "(I)V" } : Jvm.MethodName)) ∈ am_TB := am_tb 281 (by decide +kernel) (by decide +kernel)
theorem tw_282 : (Jvm.Cond.code ({ cls := "SheetKernel$Frames", name := "moveHand", desc := "(I)V" } : Jvm.MethodName) prog_4_method_8_code (3 : Nat) (Option.none : Option Jvm.ClassFile.FieldType)) ∈ am_TB := am_tb 282 (by decide +kernel) (by decide +kernel)
theorem tw_287 : (Jvm.Cond.methodLink "SheetKernel" (193 : Nat) ({ cls := "SheetKernel$Task", name := "told", desc := "(I)I" } : Jvm.MethodName)) ∈ am_TB := am_tb 287 (by decide +kernel) (by decide +kernel)
theorem tw_288 : (Jvm.Cond.instanceMethod ({ cls := "SheetKernel$Task", name := "told", desc := "(I)I" } : Jvm.MethodName)) ∈ am_TB := am_tb 288 (by decide +kernel) (by decide +kernel)
theorem tw_289 : (Jvm.Cond.selects "SheetKernel$Task" ({ cls := "SheetKernel$Task", name := "told", desc := "(I)I" } : Jvm.MethodName) ({ cls := "SheetKernel$Task", name := "told", desc := "(I)I" } : Jvm.MethodName)) ∈ am_TB := am_tb 289 (by decide +kernel) (by decide +kernel)
theorem tw_290 : (Jvm.Cond.code ({ cls := "SheetKernel$Task", name := "told", desc := "(I)I" } : Jvm.MethodName) prog_7_method_8_code (2 : Nat) (Option.some Jvm.ClassFile.FieldType.int)) ∈ am_TB := am_tb 290 (by decide +kernel) (by decide +kernel)
theorem tw_291 : (Jvm.Cond.methodLink "SheetKernel$Task" (50 : Nat) ({ cls := "SheetKernel$Task", name := "mappedPages", desc := "()I" } : Jvm.MethodName)) ∈ am_TB := am_tb 291 (by decide +kernel) (by decide +kernel)
theorem tw_292 : (Jvm.Cond.instanceMethod ({ cls := "SheetKernel$Task", name := "mappedPages", desc := "()I" } : Jvm.MethodName)) ∈ am_TB := am_tb 292 (by decide +kernel) (by decide +kernel)
theorem tw_293 : (Jvm.Cond.selects "SheetKernel$Task" ({ cls := "SheetKernel$Task", name := "mappedPages", desc := "()I" } : Jvm.MethodName) ({ cls := "SheetKernel$Task", name := "mappedPages", desc := "()I" } : Jvm.MethodName)) ∈ am_TB := am_tb 293 (by decide +kernel) (by decide +kernel)
theorem tw_294 : (Jvm.Cond.code ({ cls := "SheetKernel$Task", name := "mappedPages", desc := "()I" } : Jvm.MethodName) prog_7_method_6_code (3 : Nat) (Option.some Jvm.ClassFile.FieldType.int)) ∈ am_TB := am_tb 294 (by decide +kernel) (by decide +kernel)
theorem tw_295 : (Jvm.Cond.methodLink "SheetKernel$Task" (54 : Nat) ({ cls := "SheetKernel$Task", name := "ownPages", desc := "()I" } : Jvm.MethodName)) ∈ am_TB := am_tb 295 (by decide +kernel) (by decide +kernel)
theorem tw_296 : (Jvm.Cond.instanceMethod ({ cls := "SheetKernel$Task", name := "ownPages", desc := "()I" } : Jvm.MethodName)) ∈ am_TB := am_tb 296 (by decide +kernel) (by decide +kernel)
theorem tw_297 : (Jvm.Cond.selects "SheetKernel$Task" ({ cls := "SheetKernel$Task", name := "ownPages", desc := "()I" } : Jvm.MethodName) ({ cls := "SheetKernel$Task", name := "ownPages", desc := "()I" } : Jvm.MethodName)) ∈ am_TB := am_tb 297 (by decide +kernel) (by decide +kernel)
theorem tw_298 : (Jvm.Cond.code ({ cls := "SheetKernel$Task", name := "ownPages", desc := "()I" } : Jvm.MethodName) prog_7_method_7_code (4 : Nat) (Option.some Jvm.ClassFile.FieldType.int)) ∈ am_TB := am_tb 298 (by decide +kernel) (by decide +kernel)
theorem tw_303 : (Jvm.Cond.methodLink "SheetKernel" (200 : Nat) ({ cls := "SheetKernel$Sheet", name := "told", desc := "(I)I" } : Jvm.MethodName)) ∈ am_TB := am_tb 303 (by decide +kernel) (by decide +kernel)
theorem tw_304 : (Jvm.Cond.instanceMethod ({ cls := "SheetKernel$Sheet", name := "told", desc := "(I)I" } : Jvm.MethodName)) ∈ am_TB := am_tb 304 (by decide +kernel) (by decide +kernel)
theorem tw_305 : (Jvm.Cond.selects "SheetKernel$Sheet" ({ cls := "SheetKernel$Sheet", name := "told", desc := "(I)I" } : Jvm.MethodName) ({ cls := "SheetKernel$Sheet", name := "told", desc := "(I)I" } : Jvm.MethodName)) ∈ am_TB := am_tb 305 (by decide +kernel) (by decide +kernel)
theorem tw_306 : (Jvm.Cond.code ({ cls := "SheetKernel$Sheet", name := "told", desc := "(I)I" } : Jvm.MethodName) prog_5_method_5_code (2 : Nat) (Option.some Jvm.ClassFile.FieldType.int)) ∈ am_TB := am_tb 306 (by decide +kernel) (by decide +kernel)
theorem tw_315 : (Jvm.Cond.methodLink "SheetKernel" (205 : Nat) ({ cls := "SheetKernel$Disk", name := "countFree", desc := "()I" } : Jvm.MethodName)) ∈ am_TB := am_tb 315 (by decide +kernel) (by decide +kernel)
theorem tw_316 : (Jvm.Cond.instanceMethod ({ cls := "SheetKernel$Disk", name := "countFree", desc := "()I" } : Jvm.MethodName)) ∈ am_TB := am_tb 316 (by decide +kernel) (by decide +kernel)
theorem tw_317 : (Jvm.Cond.selects "SheetKernel$Disk" ({ cls := "SheetKernel$Disk", name := "countFree", desc := "()I" } : Jvm.MethodName) ({ cls := "SheetKernel$Disk", name := "countFree", desc := "()I" } : Jvm.MethodName)) ∈ am_TB := am_tb 317 (by decide +kernel) (by decide +kernel)
theorem tw_318 : (Jvm.Cond.code ({ cls := "SheetKernel$Disk", name := "countFree", desc := "()I" } : Jvm.MethodName) prog_3_method_2_code (3 : Nat) (Option.some Jvm.ClassFile.FieldType.int)) ∈ am_TB := am_tb 318 (by decide +kernel) (by decide +kernel)
theorem tw_323 : (Jvm.Cond.methodLink "SheetKernel" (208 : Nat) ({ cls := "SheetKernel$Arena", name := "takenBytes", desc := "()I" } : Jvm.MethodName)) ∈ am_TB := am_tb 323 (by decide +kernel) (by decide +kernel)
theorem tw_324 : (Jvm.Cond.instanceMethod ({ cls := "SheetKernel$Arena", name := "takenBytes", desc := "()I" } : Jvm.MethodName)) ∈ am_TB := am_tb 324 (by decide +kernel) (by decide +kernel)
theorem tw_325 : (Jvm.Cond.selects "SheetKernel$Arena" ({ cls := "SheetKernel$Arena", name := "takenBytes", desc := "()I" } : Jvm.MethodName) ({ cls := "SheetKernel$Arena", name := "takenBytes", desc := "()I" } : Jvm.MethodName)) ∈ am_TB := am_tb 325 (by decide +kernel) (by decide +kernel)
theorem tw_326 : (Jvm.Cond.code ({ cls := "SheetKernel$Arena", name := "takenBytes", desc := "()I" } : Jvm.MethodName) prog_2_method_6_code (3 : Nat) (Option.some Jvm.ClassFile.FieldType.int)) ∈ am_TB := am_tb 326 (by decide +kernel) (by decide +kernel)
theorem tw_327 : (Jvm.Cond.methodLink "SheetKernel" (214 : Nat) ({ cls := "SheetKernel$Arena", name := "longestRow", desc := "()I" } : Jvm.MethodName)) ∈ am_TB := am_tb 327 (by decide +kernel) (by decide +kernel)
theorem tw_328 : (Jvm.Cond.instanceMethod ({ cls := "SheetKernel$Arena", name := "longestRow", desc := "()I" } : Jvm.MethodName)) ∈ am_TB := am_tb 328 (by decide +kernel) (by decide +kernel)
theorem tw_329 : (Jvm.Cond.selects "SheetKernel$Arena" ({ cls := "SheetKernel$Arena", name := "longestRow", desc := "()I" } : Jvm.MethodName) ({ cls := "SheetKernel$Arena", name := "longestRow", desc := "()I" } : Jvm.MethodName)) ∈ am_TB := am_tb 329 (by decide +kernel) (by decide +kernel)
theorem tw_330 : (Jvm.Cond.code ({ cls := "SheetKernel$Arena", name := "longestRow", desc := "()I" } : Jvm.MethodName) prog_2_method_5_code (4 : Nat) (Option.some Jvm.ClassFile.FieldType.int)) ∈ am_TB := am_tb 330 (by decide +kernel) (by decide +kernel)
theorem tw_335 : (Jvm.Cond.methodLink "SheetKernel" (223 : Nat) ({ cls := "SheetKernel", name := "countPages", desc := "()V" } : Jvm.MethodName)) ∈ am_TB := am_tb 335 (by decide +kernel) (by decide +kernel)
theorem tw_337 : (Jvm.Cond.instanceMethod ({ cls := "SheetKernel", name := "countPages", desc := "()V" } : Jvm.MethodName)) ∈ am_TB := am_tb 337 (by decide +kernel) (by decide +kernel)
theorem tw_338 : (Jvm.Cond.code ({ cls := "SheetKernel", name := "countPages", desc := "()V" } : Jvm.MethodName) prog_1_method_46_code (4 : Nat) (Option.none : Option Jvm.ClassFile.FieldType)) ∈ am_TB := am_tb 338 (by decide +kernel) (by decide +kernel)
theorem tw_339 : (Jvm.Cond.methodLink "SheetKernel" (226 : Nat) ({ cls := "SheetKernel$Arena", name := "clearClaims", desc := "()V" } : Jvm.MethodName)) ∈ am_TB := am_tb 339 (by decide +kernel) (by decide +kernel)
theorem tw_340 : (Jvm.Cond.instanceMethod ({ cls := "SheetKernel$Arena", name := "clearClaims", desc := "()V" } : Jvm.MethodName)) ∈ am_TB := am_tb 340 (by decide +kernel) (by decide +kernel)
theorem tw_341 : (Jvm.Cond.selects "SheetKernel$Arena" ({ cls := "SheetKernel$Arena", name := "clearClaims", desc := "()V" } : Jvm.MethodName) ({ cls := "SheetKernel$Arena", name := "clearClaims", desc := "()V" } : Jvm.MethodName)) ∈ am_TB := am_tb 341 (by decide +kernel) (by decide +kernel)
theorem tw_342 : (Jvm.Cond.code ({ cls := "SheetKernel$Arena", name := "clearClaims", desc := "()V" } : Jvm.MethodName) prog_2_method_7_code (2 : Nat) (Option.none : Option Jvm.ClassFile.FieldType)) ∈ am_TB := am_tb 342 (by decide +kernel) (by decide +kernel)
theorem tw_343 : (Jvm.Cond.methodLink "SheetKernel" (229 : Nat) ({ cls := "SheetKernel$Disk", name := "clearClaims", desc := "()V" } : Jvm.MethodName)) ∈ am_TB := am_tb 343 (by decide +kernel) (by decide +kernel)
theorem tw_344 : (Jvm.Cond.instanceMethod ({ cls := "SheetKernel$Disk", name := "clearClaims", desc := "()V" } : Jvm.MethodName)) ∈ am_TB := am_tb 344 (by decide +kernel) (by decide +kernel)
theorem tw_345 : (Jvm.Cond.selects "SheetKernel$Disk" ({ cls := "SheetKernel$Disk", name := "clearClaims", desc := "()V" } : Jvm.MethodName) ({ cls := "SheetKernel$Disk", name := "clearClaims", desc := "()V" } : Jvm.MethodName)) ∈ am_TB := am_tb 345 (by decide +kernel) (by decide +kernel)
theorem tw_346 : (Jvm.Cond.code ({ cls := "SheetKernel$Disk", name := "clearClaims", desc := "()V" } : Jvm.MethodName) prog_3_method_9_code (2 : Nat) (Option.none : Option Jvm.ClassFile.FieldType)) ∈ am_TB := am_tb 346 (by decide +kernel) (by decide +kernel)
theorem tw_347 : (Jvm.Cond.methodLink "SheetKernel" (239 : Nat) ({ cls := "SheetKernel$Arena", name := "claim", desc := "(LSheetKernel$Sheet;)V" } : Jvm.MethodName)) ∈ am_TB := am_tb 347 (by decide +kernel) (by decide +kernel)
theorem tw_348 : (Jvm.Cond.instanceMethod ({ cls := "SheetKernel$Arena", name := "claim", desc := "(LSheetKernel$Sheet;)V" } : Jvm.MethodName)) ∈ am_TB := am_tb 348 (by decide +kernel) (by decide +kernel)
theorem tw_349 : (Jvm.Cond.selects "SheetKernel$Arena" ({ cls := "SheetKernel$Arena", name := "claim", desc := "(LSheetKernel$Sheet;)V" } : Jvm.MethodName) ({ cls := "SheetKernel$Arena", name := "claim", desc := "(LSheetKernel$Sheet;)V" } : Jvm.MethodName)) ∈ am_TB := am_tb 349 (by decide +kernel) (by decide +kernel)
theorem tw_350 : (Jvm.Cond.code ({ cls := "SheetKernel$Arena", name := "claim", desc := "(LSheetKernel$Sheet;)V" } : Jvm.MethodName) prog_2_method_8_code (3 : Nat) (Option.none : Option Jvm.ClassFile.FieldType)) ∈ am_TB := am_tb 350 (by decide +kernel) (by decide +kernel)
theorem tw_351 : (Jvm.Cond.methodLink "SheetKernel" (246 : Nat) ({ cls := "SheetKernel$Disk", name := "claim", desc := "(I)V" } : Jvm.MethodName)) ∈ am_TB := am_tb 351 (by decide +kernel) (by decide +kernel)
theorem tw_352 : (Jvm.Cond.instanceMethod ({ cls := "SheetKernel$Disk", name := "claim", desc := "(I)V" } : Jvm.MethodName)) ∈ am_TB := am_tb 352 (by decide +kernel) (by decide +kernel)
theorem tw_353 : (Jvm.Cond.selects "SheetKernel$Disk" ({ cls := "SheetKernel$Disk", name := "claim", desc := "(I)V" } : Jvm.MethodName) ({ cls := "SheetKernel$Disk", name := "claim", desc := "(I)V" } : Jvm.MethodName)) ∈ am_TB := am_tb 353 (by decide +kernel) (by decide +kernel)
theorem tw_354 : (Jvm.Cond.code ({ cls := "SheetKernel$Disk", name := "claim", desc := "(I)V" } : Jvm.MethodName) prog_3_method_10_code (2 : Nat) (Option.none : Option Jvm.ClassFile.FieldType)) ∈ am_TB := am_tb 354 (by decide +kernel) (by decide +kernel)
theorem tw_355 : (Jvm.Cond.methodLink "SheetKernel" (251 : Nat) ({ cls := "SheetKernel$Arena", name := "wrongClaims", desc := "()I" } : Jvm.MethodName)) ∈ am_TB := am_tb 355 (by decide +kernel) (by decide +kernel)
theorem tw_356 : (Jvm.Cond.instanceMethod ({ cls := "SheetKernel$Arena", name := "wrongClaims", desc := "()I" } : Jvm.MethodName)) ∈ am_TB := am_tb 356 (by decide +kernel) (by decide +kernel)
theorem tw_357 : (Jvm.Cond.selects "SheetKernel$Arena" ({ cls := "SheetKernel$Arena", name := "wrongClaims", desc := "()I" } : Jvm.MethodName) ({ cls := "SheetKernel$Arena", name := "wrongClaims", desc := "()I" } : Jvm.MethodName)) ∈ am_TB := am_tb 357 (by decide +kernel) (by decide +kernel)
theorem tw_358 : (Jvm.Cond.code ({ cls := "SheetKernel$Arena", name := "wrongClaims", desc := "()I" } : Jvm.MethodName) prog_2_method_9_code (3 : Nat) (Option.some Jvm.ClassFile.FieldType.int)) ∈ am_TB := am_tb 358 (by decide +kernel) (by decide +kernel)
theorem tw_359 : (Jvm.Cond.methodLink "SheetKernel" (254 : Nat) ({ cls := "SheetKernel$Disk", name := "wrongClaims", desc := "()I" } : Jvm.MethodName)) ∈ am_TB := am_tb 359 (by decide +kernel) (by decide +kernel)
theorem tw_360 : (Jvm.Cond.instanceMethod ({ cls := "SheetKernel$Disk", name := "wrongClaims", desc := "()I" } : Jvm.MethodName)) ∈ am_TB := am_tb 360 (by decide +kernel) (by decide +kernel)
theorem tw_361 : (Jvm.Cond.selects "SheetKernel$Disk" ({ cls := "SheetKernel$Disk", name := "wrongClaims", desc := "()I" } : Jvm.MethodName) ({ cls := "SheetKernel$Disk", name := "wrongClaims", desc := "()I" } : Jvm.MethodName)) ∈ am_TB := am_tb 361 (by decide +kernel) (by decide +kernel)
theorem tw_362 : (Jvm.Cond.code ({ cls := "SheetKernel$Disk", name := "wrongClaims", desc := "()I" } : Jvm.MethodName) prog_3_method_11_code (3 : Nat) (Option.some Jvm.ClassFile.FieldType.int)) ∈ am_TB := am_tb 362 (by decide +kernel) (by decide +kernel)
theorem tw_371 : (Jvm.Cond.methodLink "SheetKernel" (44 : Nat) ({ cls := "SheetKernel", name := "lowestNotLiving", desc := "()I" } : Jvm.MethodName)) ∈ am_TB := am_tb 371 (by decide +kernel) (by decide +kernel)
theorem tw_373 : (Jvm.Cond.instanceMethod ({ cls := "SheetKernel", name := "lowestNotLiving", desc := "()I" } : Jvm.MethodName)) ∈ am_TB := am_tb 373 (by decide +kernel) (by decide +kernel)
theorem tw_374 : (Jvm.Cond.code ({ cls := "SheetKernel", name := "lowestNotLiving", desc := "()I" } : Jvm.MethodName) prog_1_method_28_code (2 : Nat) (Option.some Jvm.ClassFile.FieldType.int)) ∈ am_TB := am_tb 374 (by decide +kernel) (by decide +kernel)
theorem tw_444 : (Jvm.Cond.methodLink "SheetKernel" (55 : Nat) ({ cls := "SheetKernel$Task", name := "begin", desc := "()V" } : Jvm.MethodName)) ∈ am_TB := am_tb 444 (by decide +kernel) (by decide +kernel)
theorem tw_445 : (Jvm.Cond.instanceMethod ({ cls := "SheetKernel$Task", name := "begin", desc := "()V" } : Jvm.MethodName)) ∈ am_TB := am_tb 445 (by decide +kernel) (by decide +kernel)
theorem tw_446 : (Jvm.Cond.selects "SheetKernel$Task" ({ cls := "SheetKernel$Task", name := "begin", desc := "()V" } : Jvm.MethodName) ({ cls := "SheetKernel$Task", name := "begin", desc := "()V" } : Jvm.MethodName)) ∈ am_TB := am_tb 446 (by decide +kernel) (by decide +kernel)
theorem tw_447 : (Jvm.Cond.code ({ cls := "SheetKernel$Task", name := "begin", desc := "()V" } : Jvm.MethodName) prog_7_method_2_code (2 : Nat) (Option.none : Option Jvm.ClassFile.FieldType)) ∈ am_TB := am_tb 447 (by decide +kernel) (by decide +kernel)
theorem tw_457 : (Jvm.Cond.methodLink "SheetKernel" (58 : Nat) ({ cls := "SheetKernel", name := "living", desc := "(I)LSheetKernel$Task;" } : Jvm.MethodName)) ∈ am_TB := am_tb 457 (by decide +kernel) (by decide +kernel)
theorem tw_459 : (Jvm.Cond.instanceMethod ({ cls := "SheetKernel", name := "living", desc := "(I)LSheetKernel$Task;" } : Jvm.MethodName)) ∈ am_TB := am_tb 459 (by decide +kernel) (by decide +kernel)
theorem tw_460 : (Jvm.Cond.code ({ cls := "SheetKernel", name := "living", desc := "(I)LSheetKernel$Task;" } : Jvm.MethodName) prog_1_method_21_code (2 : Nat) (Option.some (Jvm.ClassFile.FieldType.object "SheetKernel$Task"))) ∈ am_TB := am_tb 460 (by decide +kernel) (by decide +kernel)
theorem tw_477 : (Jvm.Cond.methodLink "SheetKernel" (62 : Nat) ({ cls := "SheetKernel", name := "needPage", desc := "(I)V" } : Jvm.MethodName)) ∈ am_TB := am_tb 477 (by decide +kernel) (by decide +kernel)
theorem tw_479 : (Jvm.Cond.instanceMethod ({ cls := "SheetKernel", name := "needPage", desc := "(I)V" } : Jvm.MethodName)) ∈ am_TB := am_tb 479 (by decide +kernel) (by decide +kernel)
theorem tw_480 : (Jvm.Cond.code ({ cls := "SheetKernel", name := "needPage", desc := "(I)V" } : Jvm.MethodName) prog_1_method_22_code (2 : Nat) (Option.none : Option Jvm.ClassFile.FieldType)) ∈ am_TB := am_tb 480 (by decide +kernel) (by decide +kernel)
theorem tw_482 : (Jvm.Cond.methodLink "SheetKernel" (66 : Nat) ({ cls := "SheetKernel", name := "needCount", desc := "(I)V" } : Jvm.MethodName)) ∈ am_TB := am_tb 482 (by decide +kernel) (by decide +kernel)
theorem tw_484 : (Jvm.Cond.instanceMethod ({ cls := "SheetKernel", name := "needCount", desc := "(I)V" } : Jvm.MethodName)) ∈ am_TB := am_tb 484 (by decide +kernel) (by decide +kernel)
theorem tw_485 : (Jvm.Cond.code ({ cls := "SheetKernel", name := "needCount", desc := "(I)V" } : Jvm.MethodName) prog_1_method_24_code (2 : Nat) (Option.none : Option Jvm.ClassFile.FieldType)) ∈ am_TB := am_tb 485 (by decide +kernel) (by decide +kernel)
theorem tw_503 : (Jvm.Cond.methodLink "SheetKernel" (74 : Nat) ({ cls := "SheetKernel", name := "needUnmapped", desc := "(LSheetKernel$Task;II)V" } : Jvm.MethodName)) ∈ am_TB := am_tb 503 (by decide +kernel) (by decide +kernel)
theorem tw_505 : (Jvm.Cond.instanceMethod ({ cls := "SheetKernel", name := "needUnmapped", desc := "(LSheetKernel$Task;II)V" } : Jvm.MethodName)) ∈ am_TB := am_tb 505 (by decide +kernel) (by decide +kernel)
theorem tw_506 : (Jvm.Cond.code ({ cls := "SheetKernel", name := "needUnmapped", desc := "(LSheetKernel$Task;II)V" } : Jvm.MethodName) prog_1_method_25_code (5 : Nat) (Option.none : Option Jvm.ClassFile.FieldType)) ∈ am_TB := am_tb 506 (by decide +kernel) (by decide +kernel)
theorem tw_509 : (Jvm.Cond.methodLink "SheetKernel" (78 : Nat) ({ cls := "SheetKernel$Sheets", name := "take", desc := "()LSheetKernel$Sheet;" } : Jvm.MethodName)) ∈ am_TB := am_tb 509 (by decide +kernel) (by decide +kernel)
theorem tw_510 : (Jvm.Cond.instanceMethod ({ cls := "SheetKernel$Sheets", name := "take", desc := "()LSheetKernel$Sheet;" } : Jvm.MethodName)) ∈ am_TB := am_tb 510 (by decide +kernel) (by decide +kernel)
theorem tw_511 : (Jvm.Cond.selects "SheetKernel$Sheets" ({ cls := "SheetKernel$Sheets", name := "take", desc := "()LSheetKernel$Sheet;" } : Jvm.MethodName) ({ cls := "SheetKernel$Sheets", name := "take", desc := "()LSheetKernel$Sheet;" } : Jvm.MethodName)) ∈ am_TB := am_tb 511 (by decide +kernel) (by decide +kernel)
theorem tw_512 : (Jvm.Cond.code ({ cls := "SheetKernel$Sheets", name := "take", desc := "()LSheetKernel$Sheet;" } : Jvm.MethodName) prog_6_method_2_code (1 : Nat) (Option.some (Jvm.ClassFile.FieldType.object "SheetKernel$Sheet"))) ∈ am_TB := am_tb 512 (by decide +kernel) (by decide +kernel)
theorem tw_513 : (Jvm.Cond.methodLink "SheetKernel" (82 : Nat) ({ cls := "SheetKernel$Task", name := "map", desc := "(ILSheetKernel$Sheet;I)V" } : Jvm.MethodName)) ∈ am_TB := am_tb 513 (by decide +kernel) (by decide +kernel)
theorem tw_514 : (Jvm.Cond.instanceMethod ({ cls := "SheetKernel$Task", name := "map", desc := "(ILSheetKernel$Sheet;I)V" } : Jvm.MethodName)) ∈ am_TB := am_tb 514 (by decide +kernel) (by decide +kernel)
theorem tw_515 : (Jvm.Cond.selects "SheetKernel$Task" ({ cls := "SheetKernel$Task", name := "map", desc := "(ILSheetKernel$Sheet;I)V" } : Jvm.MethodName) ({ cls := "SheetKernel$Task", name := "map", desc := "(ILSheetKernel$Sheet;I)V" } : Jvm.MethodName)) ∈ am_TB := am_tb 515 (by decide +kernel) (by decide +kernel)
theorem tw_516 : (Jvm.Cond.code ({ cls := "SheetKernel$Task", name := "map", desc := "(ILSheetKernel$Sheet;I)V" } : Jvm.MethodName) prog_7_method_3_code (4 : Nat) (Option.none : Option Jvm.ClassFile.FieldType)) ∈ am_TB := am_tb 516 (by decide +kernel) (by decide +kernel)
theorem tw_524 : (Jvm.Cond.methodLink "SheetKernel" (86 : Nat) ({ cls := "SheetKernel", name := "needShared", desc := "(LSheetKernel$Task;II)V" } : Jvm.MethodName)) ∈ am_TB := am_tb 524 (by decide +kernel) (by decide +kernel)
theorem tw_526 : (Jvm.Cond.instanceMethod ({ cls := "SheetKernel", name := "needShared", desc := "(LSheetKernel$Task;II)V" } : Jvm.MethodName)) ∈ am_TB := am_tb 526 (by decide +kernel) (by decide +kernel)
theorem tw_527 : (Jvm.Cond.code ({ cls := "SheetKernel", name := "needShared", desc := "(LSheetKernel$Task;II)V" } : Jvm.MethodName) prog_1_method_27_code (5 : Nat) (Option.none : Option Jvm.ClassFile.FieldType)) ∈ am_TB := am_tb 527 (by decide +kernel) (by decide +kernel)
theorem tw_528 : (Jvm.Cond.methodLink "SheetKernel" (99 : Nat) ({ cls := "SheetKernel", name := "needMapped", desc := "(LSheetKernel$Task;II)V" } : Jvm.MethodName)) ∈ am_TB := am_tb 528 (by decide +kernel) (by decide +kernel)
theorem tw_530 : (Jvm.Cond.instanceMethod ({ cls := "SheetKernel", name := "needMapped", desc := "(LSheetKernel$Task;II)V" } : Jvm.MethodName)) ∈ am_TB := am_tb 530 (by decide +kernel) (by decide +kernel)
theorem tw_531 : (Jvm.Cond.code ({ cls := "SheetKernel", name := "needMapped", desc := "(LSheetKernel$Task;II)V" } : Jvm.MethodName) prog_1_method_26_code (5 : Nat) (Option.none : Option Jvm.ClassFile.FieldType)) ∈ am_TB := am_tb 531 (by decide +kernel) (by decide +kernel)
theorem tw_534 : (Jvm.Cond.methodLink "SheetKernel" (89 : Nat) ({ cls := "SheetKernel$Task", name := "mayMapAgain", desc := "(II)Z" } : Jvm.MethodName)) ∈ am_TB := am_tb 534 (by decide +kernel) (by decide +kernel)
theorem tw_535 : (Jvm.Cond.instanceMethod ({ cls := "SheetKernel$Task", name := "mayMapAgain", desc := "(II)Z" } : Jvm.MethodName)) ∈ am_TB := am_tb 535 (by decide +kernel) (by decide +kernel)
theorem tw_536 : (Jvm.Cond.selects "SheetKernel$Task" ({ cls := "SheetKernel$Task", name := "mayMapAgain", desc := "(II)Z" } : Jvm.MethodName) ({ cls := "SheetKernel$Task", name := "mayMapAgain", desc := "(II)Z" } : Jvm.MethodName)) ∈ am_TB := am_tb 536 (by decide +kernel) (by decide +kernel)
theorem tw_537 : (Jvm.Cond.code ({ cls := "SheetKernel$Task", name := "mayMapAgain", desc := "(II)Z" } : Jvm.MethodName) prog_7_method_5_code (5 : Nat) (Option.some Jvm.ClassFile.FieldType.boolean)) ∈ am_TB := am_tb 537 (by decide +kernel) (by decide +kernel)
theorem tw_546 : (Jvm.Cond.methodLink "SheetKernel" (102 : Nat) ({ cls := "SheetKernel", name := "unmap", desc := "(LSheetKernel$Task;I)V" } : Jvm.MethodName)) ∈ am_TB := am_tb 546 (by decide +kernel) (by decide +kernel)
theorem tw_548 : (Jvm.Cond.instanceMethod ({ cls := "SheetKernel", name := "unmap", desc := "(LSheetKernel$Task;I)V" } : Jvm.MethodName)) ∈ am_TB := am_tb 548 (by decide +kernel) (by decide +kernel)
theorem tw_549 : (Jvm.Cond.code ({ cls := "SheetKernel", name := "unmap", desc := "(LSheetKernel$Task;I)V" } : Jvm.MethodName) prog_1_method_31_code (4 : Nat) (Option.none : Option Jvm.ClassFile.FieldType)) ∈ am_TB := am_tb 549 (by decide +kernel) (by decide +kernel)
theorem tw_550 : (Jvm.Cond.methodLink "SheetKernel" (274 : Nat) ({ cls := "SheetKernel$Frames", name := "vacate", desc := "(I)V" } : Jvm.MethodName)) ∈ am_TB := am_tb 550 (by decide +kernel) (by decide +kernel)
theorem tw_551 : (Jvm.Cond.instanceMethod ({ cls := "SheetKernel$Frames", name := "vacate", desc := "(I)V" } : Jvm.MethodName)) ∈ am_TB := am_tb 551 (by decide +kernel) (by decide +kernel)
theorem tw_552 : (Jvm.Cond.selects "SheetKernel$Frames" ({ cls := "SheetKernel$Frames", name := "vacate", desc := "(I)V" } : Jvm.MethodName) ({ cls := "SheetKernel$Frames", name := "vacate", desc := "(I)V" } : Jvm.MethodName)) ∈ am_TB := am_tb 552 (by decide +kernel) (by decide +kernel)
theorem tw_553 : (Jvm.Cond.code ({ cls := "SheetKernel$Frames", name := "vacate", desc := "(I)V" } : Jvm.MethodName) prog_4_method_6_code (2 : Nat) (Option.none : Option Jvm.ClassFile.FieldType)) ∈ am_TB := am_tb 553 (by decide +kernel) (by decide +kernel)
theorem tw_554 : (Jvm.Cond.methodLink "SheetKernel" (277 : Nat) ({ cls := "SheetKernel$Arena", name := "unpack", desc := "(LSheetKernel$Sheet;)V" } : Jvm.MethodName)) ∈ am_TB := am_tb 554 (by decide +kernel) (by decide +kernel)
theorem tw_555 : (Jvm.Cond.instanceMethod ({ cls := "SheetKernel$Arena", name := "unpack", desc := "(LSheetKernel$Sheet;)V" } : Jvm.MethodName)) ∈ am_TB := am_tb 555 (by decide +kernel) (by decide +kernel)
theorem tw_556 : (Jvm.Cond.selects "SheetKernel$Arena" ({ cls := "SheetKernel$Arena", name := "unpack", desc := "(LSheetKernel$Sheet;)V" } : Jvm.MethodName) ({ cls := "SheetKernel$Arena", name := "unpack", desc := "(LSheetKernel$Sheet;)V" } : Jvm.MethodName)) ∈ am_TB := am_tb 556 (by decide +kernel) (by decide +kernel)
theorem tw_557 : (Jvm.Cond.code ({ cls := "SheetKernel$Arena", name := "unpack", desc := "(LSheetKernel$Sheet;)V" } : Jvm.MethodName) prog_2_method_3_code (3 : Nat) (Option.none : Option Jvm.ClassFile.FieldType)) ∈ am_TB := am_tb 557 (by decide +kernel) (by decide +kernel)
theorem tw_558 : (Jvm.Cond.methodLink "SheetKernel" (280 : Nat) ({ cls := "SheetKernel$Disk", name := "release", desc := "(I)V" } : Jvm.MethodName)) ∈ am_TB := am_tb 558 (by decide +kernel) (by decide +kernel)
theorem tw_559 : (Jvm.Cond.instanceMethod ({ cls := "SheetKernel$Disk", name := "release", desc := "(I)V" } : Jvm.MethodName)) ∈ am_TB := am_tb 559 (by decide +kernel) (by decide +kernel)
theorem tw_560 : (Jvm.Cond.selects "SheetKernel$Disk" ({ cls := "SheetKernel$Disk", name := "release", desc := "(I)V" } : Jvm.MethodName) ({ cls := "SheetKernel$Disk", name := "release", desc := "(I)V" } : Jvm.MethodName)) ∈ am_TB := am_tb 560 (by decide +kernel) (by decide +kernel)
theorem tw_561 : (Jvm.Cond.code ({ cls := "SheetKernel$Disk", name := "release", desc := "(I)V" } : Jvm.MethodName) prog_3_method_6_code (2 : Nat) (Option.none : Option Jvm.ClassFile.FieldType)) ∈ am_TB := am_tb 561 (by decide +kernel) (by decide +kernel)
theorem tw_562 : (Jvm.Cond.methodLink "SheetKernel" (283 : Nat) ({ cls := "SheetKernel$Sheet", name := "clear", desc := "()V" } : Jvm.MethodName)) ∈ am_TB := am_tb 562 (by decide +kernel) (by decide +kernel)
theorem tw_563 : (Jvm.Cond.instanceMethod ({ cls := "SheetKernel$Sheet", name := "clear", desc := "()V" } : Jvm.MethodName)) ∈ am_TB := am_tb 563 (by decide +kernel) (by decide +kernel)
theorem tw_564 : (Jvm.Cond.selects "SheetKernel$Sheet" ({ cls := "SheetKernel$Sheet", name := "clear", desc := "()V" } : Jvm.MethodName) ({ cls := "SheetKernel$Sheet", name := "clear", desc := "()V" } : Jvm.MethodName)) ∈ am_TB := am_tb 564 (by decide +kernel) (by decide +kernel)
theorem tw_565 : (Jvm.Cond.code ({ cls := "SheetKernel$Sheet", name := "clear", desc := "()V" } : Jvm.MethodName) prog_5_method_2_code (2 : Nat) (Option.none : Option Jvm.ClassFile.FieldType)) ∈ am_TB := am_tb 565 (by decide +kernel) (by decide +kernel)
theorem tw_566 : (Jvm.Cond.methodLink "SheetKernel" (286 : Nat) ({ cls := "SheetKernel$Sheets", name := "giveBack", desc := "(LSheetKernel$Sheet;)V" } : Jvm.MethodName)) ∈ am_TB := am_tb 566 (by decide +kernel) (by decide +kernel)
theorem tw_567 : (Jvm.Cond.instanceMethod ({ cls := "SheetKernel$Sheets", name := "giveBack", desc := "(LSheetKernel$Sheet;)V" } : Jvm.MethodName)) ∈ am_TB := am_tb 567 (by decide +kernel) (by decide +kernel)
theorem tw_568 : (Jvm.Cond.selects "SheetKernel$Sheets" ({ cls := "SheetKernel$Sheets", name := "giveBack", desc := "(LSheetKernel$Sheet;)V" } : Jvm.MethodName) ({ cls := "SheetKernel$Sheets", name := "giveBack", desc := "(LSheetKernel$Sheet;)V" } : Jvm.MethodName)) ∈ am_TB := am_tb 568 (by decide +kernel) (by decide +kernel)
theorem tw_569 : (Jvm.Cond.code ({ cls := "SheetKernel$Sheets", name := "giveBack", desc := "(LSheetKernel$Sheet;)V" } : Jvm.MethodName) prog_6_method_3_code (2 : Nat) (Option.none : Option Jvm.ClassFile.FieldType)) ∈ am_TB := am_tb 569 (by decide +kernel) (by decide +kernel)
theorem tw_577 : (Jvm.Cond.methodLink "SheetKernel" (106 : Nat) ({ cls := "SheetKernel", name := "doubled", desc := "(LSheetKernel$Task;)I" } : Jvm.MethodName)) ∈ am_TB := am_tb 577 (by decide +kernel) (by decide +kernel)
theorem tw_579 : (Jvm.Cond.instanceMethod ({ cls := "SheetKernel", name := "doubled", desc := "(LSheetKernel$Task;)I" } : Jvm.MethodName)) ∈ am_TB := am_tb 579 (by decide +kernel) (by decide +kernel)
theorem tw_580 : (Jvm.Cond.code ({ cls := "SheetKernel", name := "doubled", desc := "(LSheetKernel$Task;)I" } : Jvm.MethodName) prog_1_method_29_code (5 : Nat) (Option.some Jvm.ClassFile.FieldType.int)) ∈ am_TB := am_tb 580 (by decide +kernel) (by decide +kernel)
theorem tw_589 : (Jvm.Cond.methodLink "SheetKernel" (112 : Nat) ({ cls := "SheetKernel", name := "endTask", desc := "(LSheetKernel$Task;I)V" } : Jvm.MethodName)) ∈ am_TB := am_tb 589 (by decide +kernel) (by decide +kernel)
theorem tw_591 : (Jvm.Cond.instanceMethod ({ cls := "SheetKernel", name := "endTask", desc := "(LSheetKernel$Task;I)V" } : Jvm.MethodName)) ∈ am_TB := am_tb 591 (by decide +kernel) (by decide +kernel)
theorem tw_592 : (Jvm.Cond.code ({ cls := "SheetKernel", name := "endTask", desc := "(LSheetKernel$Task;I)V" } : Jvm.MethodName) prog_1_method_30_code (4 : Nat) (Option.none : Option Jvm.ClassFile.FieldType)) ∈ am_TB := am_tb 592 (by decide +kernel) (by decide +kernel)
theorem tw_601 : (Jvm.Cond.methodLink "SheetKernel" (119 : Nat) ({ cls := "SheetKernel", name := "needAddress", desc := "(I)V" } : Jvm.MethodName)) ∈ am_TB := am_tb 601 (by decide +kernel) (by decide +kernel)
theorem tw_603 : (Jvm.Cond.instanceMethod ({ cls := "SheetKernel", name := "needAddress", desc := "(I)V" } : Jvm.MethodName)) ∈ am_TB := am_tb 603 (by decide +kernel) (by decide +kernel)
theorem tw_604 : (Jvm.Cond.code ({ cls := "SheetKernel", name := "needAddress", desc := "(I)V" } : Jvm.MethodName) prog_1_method_23_code (2 : Nat) (Option.none : Option Jvm.ClassFile.FieldType)) ∈ am_TB := am_tb 604 (by decide +kernel) (by decide +kernel)
theorem tw_606 : (Jvm.Cond.methodLink "SheetKernel" (122 : Nat) ({ cls := "SheetKernel", name := "touch", desc := "(LSheetKernel$Task;II)LSheetKernel$Sheet;" } : Jvm.MethodName)) ∈ am_TB := am_tb 606 (by decide +kernel) (by decide +kernel)
theorem tw_608 : (Jvm.Cond.instanceMethod ({ cls := "SheetKernel", name := "touch", desc := "(LSheetKernel$Task;II)LSheetKernel$Sheet;" } : Jvm.MethodName)) ∈ am_TB := am_tb 608 (by decide +kernel) (by decide +kernel)
theorem tw_609 : (Jvm.Cond.code ({ cls := "SheetKernel", name := "touch", desc := "(LSheetKernel$Task;II)LSheetKernel$Sheet;" } : Jvm.MethodName) prog_1_method_32_code (8 : Nat) (Option.some (Jvm.ClassFile.FieldType.object "SheetKernel$Sheet"))) ∈ am_TB := am_tb 609 (by decide +kernel) (by decide +kernel)
theorem tw_610 : (Jvm.Cond.methodLink "SheetKernel" (289 : Nat) ({ cls := "SheetKernel$Task", name := "sheetFor", desc := "(II)LSheetKernel$Sheet;" } : Jvm.MethodName)) ∈ am_TB := am_tb 610 (by decide +kernel) (by decide +kernel)
theorem tw_611 : (Jvm.Cond.instanceMethod ({ cls := "SheetKernel$Task", name := "sheetFor", desc := "(II)LSheetKernel$Sheet;" } : Jvm.MethodName)) ∈ am_TB := am_tb 611 (by decide +kernel) (by decide +kernel)
theorem tw_612 : (Jvm.Cond.selects "SheetKernel$Task" ({ cls := "SheetKernel$Task", name := "sheetFor", desc := "(II)LSheetKernel$Sheet;" } : Jvm.MethodName) ({ cls := "SheetKernel$Task", name := "sheetFor", desc := "(II)LSheetKernel$Sheet;" } : Jvm.MethodName)) ∈ am_TB := am_tb 612 (by decide +kernel) (by decide +kernel)
theorem tw_613 : (Jvm.Cond.code ({ cls := "SheetKernel$Task", name := "sheetFor", desc := "(II)LSheetKernel$Sheet;" } : Jvm.MethodName) prog_7_method_4_code (4 : Nat) (Option.some (Jvm.ClassFile.FieldType.object "SheetKernel$Sheet"))) ∈ am_TB := am_tb 613 (by decide +kernel) (by decide +kernel)
theorem tw_614 : (Jvm.Cond.methodLink "SheetKernel" (293 : Nat) ({ cls := "SheetKernel", name := "startFault", desc := "(LSheetKernel$Task;LSheetKernel$Sheet;)Z" } : Jvm.MethodName)) ∈ am_TB := am_tb 614 (by decide +kernel) (by decide +kernel)
theorem tw_616 : (Jvm.Cond.instanceMethod ({ cls := "SheetKernel", name := "startFault", desc := "(LSheetKernel$Task;LSheetKernel$Sheet;)Z" } : Jvm.MethodName)) ∈ am_TB := am_tb 616 (by decide +kernel) (by decide +kernel)
theorem tw_617 : (Jvm.Cond.code ({ cls := "SheetKernel", name := "startFault", desc := "(LSheetKernel$Task;LSheetKernel$Sheet;)Z" } : Jvm.MethodName) prog_1_method_33_code (3 : Nat) (Option.some Jvm.ClassFile.FieldType.boolean)) ∈ am_TB := am_tb 617 (by decide +kernel) (by decide +kernel)
theorem tw_618 : (Jvm.Cond.methodLink "SheetKernel" (313 : Nat) ({ cls := "SheetKernel$Disk", name := "isGone", desc := "(I)Z" } : Jvm.MethodName)) ∈ am_TB := am_tb 618 (by decide +kernel) (by decide +kernel)
theorem tw_619 : (Jvm.Cond.instanceMethod ({ cls := "SheetKernel$Disk", name := "isGone", desc := "(I)Z" } : Jvm.MethodName)) ∈ am_TB := am_tb 619 (by decide +kernel) (by decide +kernel)
theorem tw_620 : (Jvm.Cond.selects "SheetKernel$Disk" ({ cls := "SheetKernel$Disk", name := "isGone", desc := "(I)Z" } : Jvm.MethodName) ({ cls := "SheetKernel$Disk", name := "isGone", desc := "(I)Z" } : Jvm.MethodName)) ∈ am_TB := am_tb 620 (by decide +kernel) (by decide +kernel)
theorem tw_621 : (Jvm.Cond.code ({ cls := "SheetKernel$Disk", name := "isGone", desc := "(I)Z" } : Jvm.MethodName) prog_3_method_5_code (2 : Nat) (Option.some Jvm.ClassFile.FieldType.boolean)) ∈ am_TB := am_tb 621 (by decide +kernel) (by decide +kernel)
theorem tw_622 : (Jvm.Cond.methodLink "SheetKernel" (317 : Nat) ({ cls := "SheetKernel$Sheet", name := "faultKind", desc := "()I" } : Jvm.MethodName)) ∈ am_TB := am_tb 622 (by decide +kernel) (by decide +kernel)
theorem tw_623 : (Jvm.Cond.instanceMethod ({ cls := "SheetKernel$Sheet", name := "faultKind", desc := "()I" } : Jvm.MethodName)) ∈ am_TB := am_tb 623 (by decide +kernel) (by decide +kernel)
theorem tw_624 : (Jvm.Cond.selects "SheetKernel$Sheet" ({ cls := "SheetKernel$Sheet", name := "faultKind", desc := "()I" } : Jvm.MethodName) ({ cls := "SheetKernel$Sheet", name := "faultKind", desc := "()I" } : Jvm.MethodName)) ∈ am_TB := am_tb 624 (by decide +kernel) (by decide +kernel)
theorem tw_625 : (Jvm.Cond.code ({ cls := "SheetKernel$Sheet", name := "faultKind", desc := "()I" } : Jvm.MethodName) prog_5_method_3_code (1 : Nat) (Option.some Jvm.ClassFile.FieldType.int)) ∈ am_TB := am_tb 625 (by decide +kernel) (by decide +kernel)
theorem tw_626 : (Jvm.Cond.methodLink "SheetKernel" (297 : Nat) ({ cls := "SheetKernel", name := "findFrame", desc := "(LSheetKernel$Task;I)I" } : Jvm.MethodName)) ∈ am_TB := am_tb 626 (by decide +kernel) (by decide +kernel)
theorem tw_628 : (Jvm.Cond.instanceMethod ({ cls := "SheetKernel", name := "findFrame", desc := "(LSheetKernel$Task;I)I" } : Jvm.MethodName)) ∈ am_TB := am_tb 628 (by decide +kernel) (by decide +kernel)
theorem tw_629 : (Jvm.Cond.code ({ cls := "SheetKernel", name := "findFrame", desc := "(LSheetKernel$Task;I)I" } : Jvm.MethodName) prog_1_method_36_code (7 : Nat) (Option.some Jvm.ClassFile.FieldType.int)) ∈ am_TB := am_tb 629 (by decide +kernel) (by decide +kernel)
theorem tw_630 : (Jvm.Cond.methodLink "SheetKernel" (326 : Nat) ({ cls := "SheetKernel$Frames", name := "lowestVacant", desc := "()I" } : Jvm.MethodName)) ∈ am_TB := am_tb 630 (by decide +kernel) (by decide +kernel)
theorem tw_631 : (Jvm.Cond.instanceMethod ({ cls := "SheetKernel$Frames", name := "lowestVacant", desc := "()I" } : Jvm.MethodName)) ∈ am_TB := am_tb 631 (by decide +kernel) (by decide +kernel)
theorem tw_632 : (Jvm.Cond.selects "SheetKernel$Frames" ({ cls := "SheetKernel$Frames", name := "lowestVacant", desc := "()I" } : Jvm.MethodName) ({ cls := "SheetKernel$Frames", name := "lowestVacant", desc := "()I" } : Jvm.MethodName)) ∈ am_TB := am_tb 632 (by decide +kernel) (by decide +kernel)
theorem tw_633 : (Jvm.Cond.code ({ cls := "SheetKernel$Frames", name := "lowestVacant", desc := "()I" } : Jvm.MethodName) prog_4_method_3_code (2 : Nat) (Option.some Jvm.ClassFile.FieldType.int)) ∈ am_TB := am_tb 633 (by decide +kernel) (by decide +kernel)
theorem tw_634 : (Jvm.Cond.methodLink "SheetKernel" (329 : Nat) ({ cls := "SheetKernel$Frames", name := "unmark", desc := "(I)Z" } : Jvm.MethodName)) ∈ am_TB := am_tb 634 (by decide +kernel) (by decide +kernel)
theorem tw_635 : (Jvm.Cond.instanceMethod ({ cls := "SheetKernel$Frames", name := "unmark", desc := "(I)Z" } : Jvm.MethodName)) ∈ am_TB := am_tb 635 (by decide +kernel) (by decide +kernel)
theorem tw_636 : (Jvm.Cond.selects "SheetKernel$Frames" ({ cls := "SheetKernel$Frames", name := "unmark", desc := "(I)Z" } : Jvm.MethodName) ({ cls := "SheetKernel$Frames", name := "unmark", desc := "(I)Z" } : Jvm.MethodName)) ∈ am_TB := am_tb 636 (by decide +kernel) (by decide +kernel)
theorem tw_637 : (Jvm.Cond.code ({ cls := "SheetKernel$Frames", name := "unmark", desc := "(I)Z" } : Jvm.MethodName) prog_4_method_7_code (3 : Nat) (Option.some Jvm.ClassFile.FieldType.boolean)) ∈ am_TB := am_tb 637 (by decide +kernel) (by decide +kernel)
theorem tw_638 : (Jvm.Cond.methodLink "SheetKernel" (332 : Nat) ({ cls := "SheetKernel", name := "putAway", desc := "(I)Z" } : Jvm.MethodName)) ∈ am_TB := am_tb 638 (by decide +kernel) (by decide +kernel)
theorem tw_640 : (Jvm.Cond.instanceMethod ({ cls := "SheetKernel", name := "putAway", desc := "(I)Z" } : Jvm.MethodName)) ∈ am_TB := am_tb 640 (by decide +kernel) (by decide +kernel)
theorem tw_641 : (Jvm.Cond.code ({ cls := "SheetKernel", name := "putAway", desc := "(I)Z" } : Jvm.MethodName) prog_1_method_37_code (3 : Nat) (Option.some Jvm.ClassFile.FieldType.boolean)) ∈ am_TB := am_tb 641 (by decide +kernel) (by decide +kernel)
theorem tw_642 : (Jvm.Cond.methodLink "SheetKernel" (339 : Nat) ({ cls := "SheetKernel$Arena", name := "pack", desc := "(LSheetKernel$Sheet;)Z" } : Jvm.MethodName)) ∈ am_TB := am_tb 642 (by decide +kernel) (by decide +kernel)
theorem tw_643 : (Jvm.Cond.instanceMethod ({ cls := "SheetKernel$Arena", name := "pack", desc := "(LSheetKernel$Sheet;)Z" } : Jvm.MethodName)) ∈ am_TB := am_tb 643 (by decide +kernel) (by decide +kernel)
theorem tw_644 : (Jvm.Cond.selects "SheetKernel$Arena" ({ cls := "SheetKernel$Arena", name := "pack", desc := "(LSheetKernel$Sheet;)Z" } : Jvm.MethodName) ({ cls := "SheetKernel$Arena", name := "pack", desc := "(LSheetKernel$Sheet;)Z" } : Jvm.MethodName)) ∈ am_TB := am_tb 644 (by decide +kernel) (by decide +kernel)
theorem tw_645 : (Jvm.Cond.code ({ cls := "SheetKernel$Arena", name := "pack", desc := "(LSheetKernel$Sheet;)Z" } : Jvm.MethodName) prog_2_method_2_code (5 : Nat) (Option.some Jvm.ClassFile.FieldType.boolean)) ∈ am_TB := am_tb 645 (by decide +kernel) (by decide +kernel)
theorem tw_646 : (Jvm.Cond.methodLink "SheetKernel$Arena" (23 : Nat) ({ cls := "SheetKernel$Sheet", name := "packedBytes", desc := "()I" } : Jvm.MethodName)) ∈ am_TB := am_tb 646 (by decide +kernel) (by decide +kernel)
theorem tw_647 : (Jvm.Cond.instanceMethod ({ cls := "SheetKernel$Sheet", name := "packedBytes", desc := "()I" } : Jvm.MethodName)) ∈ am_TB := am_tb 647 (by decide +kernel) (by decide +kernel)
theorem tw_648 : (Jvm.Cond.selects "SheetKernel$Sheet" ({ cls := "SheetKernel$Sheet", name := "packedBytes", desc := "()I" } : Jvm.MethodName) ({ cls := "SheetKernel$Sheet", name := "packedBytes", desc := "()I" } : Jvm.MethodName)) ∈ am_TB := am_tb 648 (by decide +kernel) (by decide +kernel)
theorem tw_649 : (Jvm.Cond.code ({ cls := "SheetKernel$Sheet", name := "packedBytes", desc := "()I" } : Jvm.MethodName) prog_5_method_4_code (4 : Nat) (Option.some Jvm.ClassFile.FieldType.int)) ∈ am_TB := am_tb 649 (by decide +kernel) (by decide +kernel)
theorem tw_650 : (Jvm.Cond.methodLink "SheetKernel$Arena" (29 : Nat) ({ cls := "SheetKernel$Arena", name := "lowestRow", desc := "(I)I" } : Jvm.MethodName)) ∈ am_TB := am_tb 650 (by decide +kernel) (by decide +kernel)
theorem tw_651 : (Jvm.Cond.instanceMethod ({ cls := "SheetKernel$Arena", name := "lowestRow", desc := "(I)I" } : Jvm.MethodName)) ∈ am_TB := am_tb 651 (by decide +kernel) (by decide +kernel)
theorem tw_652 : (Jvm.Cond.selects "SheetKernel$Arena" ({ cls := "SheetKernel$Arena", name := "lowestRow", desc := "(I)I" } : Jvm.MethodName) ({ cls := "SheetKernel$Arena", name := "lowestRow", desc := "(I)I" } : Jvm.MethodName)) ∈ am_TB := am_tb 652 (by decide +kernel) (by decide +kernel)
theorem tw_653 : (Jvm.Cond.code ({ cls := "SheetKernel$Arena", name := "lowestRow", desc := "(I)I" } : Jvm.MethodName) prog_2_method_4_code (4 : Nat) (Option.some Jvm.ClassFile.FieldType.int)) ∈ am_TB := am_tb 653 (by decide +kernel) (by decide +kernel)
theorem tw_654 : (Jvm.Cond.methodLink "SheetKernel" (343 : Nat) ({ cls := "SheetKernel", name := "storeInSlots", desc := "(LSheetKernel$Sheet;)Z" } : Jvm.MethodName)) ∈ am_TB := am_tb 654 (by decide +kernel) (by decide +kernel)
theorem tw_656 : (Jvm.Cond.instanceMethod ({ cls := "SheetKernel", name := "storeInSlots", desc := "(LSheetKernel$Sheet;)Z" } : Jvm.MethodName)) ∈ am_TB := am_tb 656 (by decide +kernel) (by decide +kernel)
theorem tw_657 : (Jvm.Cond.code ({ cls := "SheetKernel", name := "storeInSlots", desc := "(LSheetKernel$Sheet;)Z" } : Jvm.MethodName) prog_1_method_38_code (3 : Nat) (Option.some Jvm.ClassFile.FieldType.boolean)) ∈ am_TB := am_tb 657 (by decide +kernel) (by decide +kernel)
theorem tw_658 : (Jvm.Cond.methodLink "SheetKernel" (346 : Nat) ({ cls := "SheetKernel$Disk", name := "takeLowest", desc := "()I" } : Jvm.MethodName)) ∈ am_TB := am_tb 658 (by decide +kernel) (by decide +kernel)
theorem tw_659 : (Jvm.Cond.instanceMethod ({ cls := "SheetKernel$Disk", name := "takeLowest", desc := "()I" } : Jvm.MethodName)) ∈ am_TB := am_tb 659 (by decide +kernel) (by decide +kernel)
theorem tw_660 : (Jvm.Cond.selects "SheetKernel$Disk" ({ cls := "SheetKernel$Disk", name := "takeLowest", desc := "()I" } : Jvm.MethodName) ({ cls := "SheetKernel$Disk", name := "takeLowest", desc := "()I" } : Jvm.MethodName)) ∈ am_TB := am_tb 660 (by decide +kernel) (by decide +kernel)
theorem tw_661 : (Jvm.Cond.code ({ cls := "SheetKernel$Disk", name := "takeLowest", desc := "()I" } : Jvm.MethodName) prog_3_method_4_code (2 : Nat) (Option.some Jvm.ClassFile.FieldType.int)) ∈ am_TB := am_tb 661 (by decide +kernel) (by decide +kernel)
theorem tw_662 : (Jvm.Cond.methodLink "SheetKernel" (349 : Nat) ({ cls := "SheetKernel", name := "isValuable", desc := "(LSheetKernel$Sheet;)Z" } : Jvm.MethodName)) ∈ am_TB := am_tb 662 (by decide +kernel) (by decide +kernel)
theorem tw_664 : (Jvm.Cond.instanceMethod ({ cls := "SheetKernel", name := "isValuable", desc := "(LSheetKernel$Sheet;)Z" } : Jvm.MethodName)) ∈ am_TB := am_tb 664 (by decide +kernel) (by decide +kernel)
theorem tw_665 : (Jvm.Cond.code ({ cls := "SheetKernel", name := "isValuable", desc := "(LSheetKernel$Sheet;)Z" } : Jvm.MethodName) prog_1_method_39_code (5 : Nat) (Option.some Jvm.ClassFile.FieldType.boolean)) ∈ am_TB := am_tb 665 (by decide +kernel) (by decide +kernel)
theorem tw_666 : (Jvm.Cond.methodLink "SheetKernel" (335 : Nat) ({ cls := "SheetKernel", name := "whoEnds", desc := "(LSheetKernel$Task;)LSheetKernel$Task;" } : Jvm.MethodName)) ∈ am_TB := am_tb 666 (by decide +kernel) (by decide +kernel)
theorem tw_668 : (Jvm.Cond.instanceMethod ({ cls := "SheetKernel", name := "whoEnds", desc := "(LSheetKernel$Task;)LSheetKernel$Task;" } : Jvm.MethodName)) ∈ am_TB := am_tb 668 (by decide +kernel) (by decide +kernel)
theorem tw_669 : (Jvm.Cond.code ({ cls := "SheetKernel", name := "whoEnds", desc := "(LSheetKernel$Task;)LSheetKernel$Task;" } : Jvm.MethodName) prog_1_method_40_code (6 : Nat) (Option.some (Jvm.ClassFile.FieldType.object "SheetKernel$Task"))) ∈ am_TB := am_tb 669 (by decide +kernel) (by decide +kernel)
theorem tw_670 : (Jvm.Cond.methodLink "SheetKernel" (352 : Nat) ({ cls := "SheetKernel$Task", name := "ownPages", desc := "()I" } : Jvm.MethodName)) ∈ am_TB := am_tb 670 (by decide +kernel) (by decide +kernel)
theorem tw_671 : (Jvm.Cond.methodLink "SheetKernel" (301 : Nat) ({ cls := "SheetKernel", name := "bringIn", desc := "(LSheetKernel$Sheet;I)V" } : Jvm.MethodName)) ∈ am_TB := am_tb 671 (by decide +kernel) (by decide +kernel)
theorem tw_673 : (Jvm.Cond.instanceMethod ({ cls := "SheetKernel", name := "bringIn", desc := "(LSheetKernel$Sheet;I)V" } : Jvm.MethodName)) ∈ am_TB := am_tb 673 (by decide +kernel) (by decide +kernel)
theorem tw_674 : (Jvm.Cond.code ({ cls := "SheetKernel", name := "bringIn", desc := "(LSheetKernel$Sheet;I)V" } : Jvm.MethodName) prog_1_method_34_code (3 : Nat) (Option.none : Option Jvm.ClassFile.FieldType)) ∈ am_TB := am_tb 674 (by decide +kernel) (by decide +kernel)
theorem tw_675 : (Jvm.Cond.methodLink "SheetKernel" (320 : Nat) ({ cls := "SheetKernel$Disk", name := "giveBackLost", desc := "(LSheetKernel$Sheet;)V" } : Jvm.MethodName)) ∈ am_TB := am_tb 675 (by decide +kernel) (by decide +kernel)
theorem tw_676 : (Jvm.Cond.instanceMethod ({ cls := "SheetKernel$Disk", name := "giveBackLost", desc := "(LSheetKernel$Sheet;)V" } : Jvm.MethodName)) ∈ am_TB := am_tb 676 (by decide +kernel) (by decide +kernel)
theorem tw_677 : (Jvm.Cond.selects "SheetKernel$Disk" ({ cls := "SheetKernel$Disk", name := "giveBackLost", desc := "(LSheetKernel$Sheet;)V" } : Jvm.MethodName) ({ cls := "SheetKernel$Disk", name := "giveBackLost", desc := "(LSheetKernel$Sheet;)V" } : Jvm.MethodName)) ∈ am_TB := am_tb 677 (by decide +kernel) (by decide +kernel)
theorem tw_678 : (Jvm.Cond.code ({ cls := "SheetKernel$Disk", name := "giveBackLost", desc := "(LSheetKernel$Sheet;)V" } : Jvm.MethodName) prog_3_method_8_code (2 : Nat) (Option.none : Option Jvm.ClassFile.FieldType)) ∈ am_TB := am_tb 678 (by decide +kernel) (by decide +kernel)
theorem tw_679 : (Jvm.Cond.methodLink "SheetKernel$Disk" (38 : Nat) ({ cls := "SheetKernel$Disk", name := "isGone", desc := "(I)Z" } : Jvm.MethodName)) ∈ am_TB := am_tb 679 (by decide +kernel) (by decide +kernel)
theorem tw_680 : (Jvm.Cond.methodLink "SheetKernel$Disk" (31 : Nat) ({ cls := "SheetKernel$Disk", name := "release", desc := "(I)V" } : Jvm.MethodName)) ∈ am_TB := am_tb 680 (by decide +kernel) (by decide +kernel)
theorem tw_681 : (Jvm.Cond.methodLink "SheetKernel" (323 : Nat) ({ cls := "SheetKernel$Frames", name := "seat", desc := "(LSheetKernel$Sheet;I)V" } : Jvm.MethodName)) ∈ am_TB := am_tb 681 (by decide +kernel) (by decide +kernel)
theorem tw_682 : (Jvm.Cond.instanceMethod ({ cls := "SheetKernel$Frames", name := "seat", desc := "(LSheetKernel$Sheet;I)V" } : Jvm.MethodName)) ∈ am_TB := am_tb 682 (by decide +kernel) (by decide +kernel)
theorem tw_683 : (Jvm.Cond.selects "SheetKernel$Frames" ({ cls := "SheetKernel$Frames", name := "seat", desc := "(LSheetKernel$Sheet;I)V" } : Jvm.MethodName) ({ cls := "SheetKernel$Frames", name := "seat", desc := "(LSheetKernel$Sheet;I)V" } : Jvm.MethodName)) ∈ am_TB := am_tb 683 (by decide +kernel) (by decide +kernel)
theorem tw_684 : (Jvm.Cond.code ({ cls := "SheetKernel$Frames", name := "seat", desc := "(LSheetKernel$Sheet;I)V" } : Jvm.MethodName) prog_4_method_4_code (3 : Nat) (Option.none : Option Jvm.ClassFile.FieldType)) ∈ am_TB := am_tb 684 (by decide +kernel) (by decide +kernel)
theorem tw_685 : (Jvm.Cond.methodLink "SheetKernel" (305 : Nat) ({ cls := "SheetKernel", name := "copyInto", desc := "(LSheetKernel$Task;II)LSheetKernel$Sheet;" } : Jvm.MethodName)) ∈ am_TB := am_tb 685 (by decide +kernel) (by decide +kernel)
theorem tw_687 : (Jvm.Cond.instanceMethod ({ cls := "SheetKernel", name := "copyInto", desc := "(LSheetKernel$Task;II)LSheetKernel$Sheet;" } : Jvm.MethodName)) ∈ am_TB := am_tb 687 (by decide +kernel) (by decide +kernel)
theorem tw_688 : (Jvm.Cond.code ({ cls := "SheetKernel", name := "copyInto", desc := "(LSheetKernel$Task;II)LSheetKernel$Sheet;" } : Jvm.MethodName) prog_1_method_35_code (7 : Nat) (Option.some (Jvm.ClassFile.FieldType.object "SheetKernel$Sheet"))) ∈ am_TB := am_tb 688 (by decide +kernel) (by decide +kernel)
theorem tw_689 : (Jvm.Cond.methodLink "SheetKernel" (308 : Nat) ({ cls := "SheetKernel$Frames", name := "touched", desc := "(IZ)V" } : Jvm.MethodName)) ∈ am_TB := am_tb 689 (by decide +kernel) (by decide +kernel)
theorem tw_690 : (Jvm.Cond.instanceMethod ({ cls := "SheetKernel$Frames", name := "touched", desc := "(IZ)V" } : Jvm.MethodName)) ∈ am_TB := am_tb 690 (by decide +kernel) (by decide +kernel)
theorem tw_691 : (Jvm.Cond.selects "SheetKernel$Frames" ({ cls := "SheetKernel$Frames", name := "touched", desc := "(IZ)V" } : Jvm.MethodName) ({ cls := "SheetKernel$Frames", name := "touched", desc := "(IZ)V" } : Jvm.MethodName)) ∈ am_TB := am_tb 691 (by decide +kernel) (by decide +kernel)
theorem tw_692 : (Jvm.Cond.code ({ cls := "SheetKernel$Frames", name := "touched", desc := "(IZ)V" } : Jvm.MethodName) prog_4_method_5_code (3 : Nat) (Option.none : Option Jvm.ClassFile.FieldType)) ∈ am_TB := am_tb 692 (by decide +kernel) (by decide +kernel)
theorem tw_693 : (Jvm.Cond.methodLink "SheetKernel" (312 : Nat) ({ cls := "SheetKernel$Disk", name := "giveBack", desc := "(LSheetKernel$Sheet;)V" } : Jvm.MethodName)) ∈ am_TB := am_tb 693 (by decide +kernel) (by decide +kernel)
theorem tw_694 : (Jvm.Cond.instanceMethod ({ cls := "SheetKernel$Disk", name := "giveBack", desc := "(LSheetKernel$Sheet;)V" } : Jvm.MethodName)) ∈ am_TB := am_tb 694 (by decide +kernel) (by decide +kernel)
theorem tw_695 : (Jvm.Cond.selects "SheetKernel$Disk" ({ cls := "SheetKernel$Disk", name := "giveBack", desc := "(LSheetKernel$Sheet;)V" } : Jvm.MethodName) ({ cls := "SheetKernel$Disk", name := "giveBack", desc := "(LSheetKernel$Sheet;)V" } : Jvm.MethodName)) ∈ am_TB := am_tb 695 (by decide +kernel) (by decide +kernel)
theorem tw_696 : (Jvm.Cond.code ({ cls := "SheetKernel$Disk", name := "giveBack", desc := "(LSheetKernel$Sheet;)V" } : Jvm.MethodName) prog_3_method_7_code (2 : Nat) (Option.none : Option Jvm.ClassFile.FieldType)) ∈ am_TB := am_tb 696 (by decide +kernel) (by decide +kernel)
theorem tw_697 : (Jvm.Cond.methodLink "SheetKernel" (126 : Nat) ({ cls := "SheetKernel", name := "throwUntouched", desc := "(LSheetKernel$Task;)V" } : Jvm.MethodName)) ∈ am_TB := am_tb 697 (by decide +kernel) (by decide +kernel)
theorem tw_699 : (Jvm.Cond.instanceMethod ({ cls := "SheetKernel", name := "throwUntouched", desc := "(LSheetKernel$Task;)V" } : Jvm.MethodName)) ∈ am_TB := am_tb 699 (by decide +kernel) (by decide +kernel)
theorem tw_700 : (Jvm.Cond.code ({ cls := "SheetKernel", name := "throwUntouched", desc := "(LSheetKernel$Task;)V" } : Jvm.MethodName) prog_1_method_42_code (2 : Nat) (Option.none : Option Jvm.ClassFile.FieldType)) ∈ am_TB := am_tb 700 (by decide +kernel) (by decide +kernel)
theorem tw_725 : (Jvm.Cond.methodLink "SheetKernel" (136 : Nat) ({ cls := "SheetKernel", name := "put", desc := "(IIII)V" } : Jvm.MethodName)) ∈ am_TB := am_tb 725 (by decide +kernel) (by decide +kernel)
theorem tw_727 : (Jvm.Cond.instanceMethod ({ cls := "SheetKernel", name := "put", desc := "(IIII)V" } : Jvm.MethodName)) ∈ am_TB := am_tb 727 (by decide +kernel) (by decide +kernel)
theorem tw_728 : (Jvm.Cond.code ({ cls := "SheetKernel", name := "put", desc := "(IIII)V" } : Jvm.MethodName) prog_1_method_41_code (7 : Nat) (Option.none : Option Jvm.ClassFile.FieldType)) ∈ am_TB := am_tb 728 (by decide +kernel) (by decide +kernel)
theorem tw_744 : (Jvm.Cond.methodLink "SheetKernel" (149 : Nat) ({ cls := "SheetKernel", name := "endRefused", desc := "(LSheetKernel$Task;)V" } : Jvm.MethodName)) ∈ am_TB := am_tb 744 (by decide +kernel) (by decide +kernel)
theorem tw_746 : (Jvm.Cond.instanceMethod ({ cls := "SheetKernel", name := "endRefused", desc := "(LSheetKernel$Task;)V" } : Jvm.MethodName)) ∈ am_TB := am_tb 746 (by decide +kernel) (by decide +kernel)
theorem tw_747 : (Jvm.Cond.code ({ cls := "SheetKernel", name := "endRefused", desc := "(LSheetKernel$Task;)V" } : Jvm.MethodName) prog_1_method_45_code (2 : Nat) (Option.none : Option Jvm.ClassFile.FieldType)) ∈ am_TB := am_tb 747 (by decide +kernel) (by decide +kernel)
theorem tw_748 : (Jvm.Cond.methodLink "SheetKernel" (152 : Nat) ({ cls := "SheetKernel", name := "perform", desc := "(LSheetKernel$Task;I)V" } : Jvm.MethodName)) ∈ am_TB := am_tb 748 (by decide +kernel) (by decide +kernel)
theorem tw_750 : (Jvm.Cond.instanceMethod ({ cls := "SheetKernel", name := "perform", desc := "(LSheetKernel$Task;I)V" } : Jvm.MethodName)) ∈ am_TB := am_tb 750 (by decide +kernel) (by decide +kernel)
theorem tw_751 : (Jvm.Cond.code ({ cls := "SheetKernel", name := "perform", desc := "(LSheetKernel$Task;I)V" } : Jvm.MethodName) prog_1_method_43_code (10 : Nat) (Option.none : Option Jvm.ClassFile.FieldType)) ∈ am_TB := am_tb 751 (by decide +kernel) (by decide +kernel)
theorem tw_752 : (Jvm.Cond.methodLink "SheetKernel" (362 : Nat) ({ cls := "SheetKernel", name := "forkInto", desc := "(LSheetKernel$Task;I)V" } : Jvm.MethodName)) ∈ am_TB := am_tb 752 (by decide +kernel) (by decide +kernel)
theorem tw_754 : (Jvm.Cond.instanceMethod ({ cls := "SheetKernel", name := "forkInto", desc := "(LSheetKernel$Task;I)V" } : Jvm.MethodName)) ∈ am_TB := am_tb 754 (by decide +kernel) (by decide +kernel)
theorem tw_755 : (Jvm.Cond.code ({ cls := "SheetKernel", name := "forkInto", desc := "(LSheetKernel$Task;I)V" } : Jvm.MethodName) prog_1_method_44_code (4 : Nat) (Option.none : Option Jvm.ClassFile.FieldType)) ∈ am_TB := am_tb 755 (by decide +kernel) (by decide +kernel)
theorem tw_765 : (Jvm.Cond.methodLink "SheetKernel" (162 : Nat) ({ cls := "SheetKernel$Disk", name := "mend", desc := "(I)V" } : Jvm.MethodName)) ∈ am_TB := am_tb 765 (by decide +kernel) (by decide +kernel)
theorem tw_766 : (Jvm.Cond.instanceMethod ({ cls := "SheetKernel$Disk", name := "mend", desc := "(I)V" } : Jvm.MethodName)) ∈ am_TB := am_tb 766 (by decide +kernel) (by decide +kernel)
theorem tw_767 : (Jvm.Cond.selects "SheetKernel$Disk" ({ cls := "SheetKernel$Disk", name := "mend", desc := "(I)V" } : Jvm.MethodName) ({ cls := "SheetKernel$Disk", name := "mend", desc := "(I)V" } : Jvm.MethodName)) ∈ am_TB := am_tb 767 (by decide +kernel) (by decide +kernel)
theorem tw_768 : (Jvm.Cond.code ({ cls := "SheetKernel$Disk", name := "mend", desc := "(I)V" } : Jvm.MethodName) prog_3_method_3_code (2 : Nat) (Option.none : Option Jvm.ClassFile.FieldType)) ∈ am_TB := am_tb 768 (by decide +kernel) (by decide +kernel)
theorem tw_782 : (Jvm.Cond.fieldLink "SheetKernelModel" (71 : Nat) "SheetKernelModel" "thrown" "I") ∈ am_TB := am_tb 782 (by decide +kernel) (by decide +kernel)
theorem tw_783 : (Jvm.Cond.fieldLink "SheetKernelModel" (7 : Nat) "SheetKernelModel" "lives" "[Z") ∈ am_TB := am_tb 783 (by decide +kernel) (by decide +kernel)
theorem tw_784 : (Jvm.Cond.fieldLink "SheetKernelModel" (13 : Nat) "SheetKernelModel" "valued" "[Z") ∈ am_TB := am_tb 784 (by decide +kernel) (by decide +kernel)
theorem tw_785 : (Jvm.Cond.fieldLink "SheetKernelModel" (16 : Nat) "SheetKernelModel" "reason" "[I") ∈ am_TB := am_tb 785 (by decide +kernel) (by decide +kernel)
theorem tw_786 : (Jvm.Cond.fieldLink "SheetKernelModel" (20 : Nat) "SheetKernelModel" "counter" "[I") ∈ am_TB := am_tb 786 (by decide +kernel) (by decide +kernel)
theorem tw_787 : (Jvm.Cond.fieldLink "SheetKernelModel" (23 : Nat) "SheetKernelModel" "registers" "[I") ∈ am_TB := am_tb 787 (by decide +kernel) (by decide +kernel)
theorem tw_788 : (Jvm.Cond.fieldLink "SheetKernelModel" (26 : Nat) "SheetKernelModel" "faults" "[I") ∈ am_TB := am_tb 788 (by decide +kernel) (by decide +kernel)
theorem tw_789 : (Jvm.Cond.fieldLink "SheetKernelModel" (29 : Nat) "SheetKernelModel" "sheet" "[I") ∈ am_TB := am_tb 789 (by decide +kernel) (by decide +kernel)
theorem tw_790 : (Jvm.Cond.fieldLink "SheetKernelModel" (32 : Nat) "SheetKernelModel" "kind" "[I") ∈ am_TB := am_tb 790 (by decide +kernel) (by decide +kernel)
theorem tw_791 : (Jvm.Cond.fieldLink "SheetKernelModel" (35 : Nat) "SheetKernelModel" "where" "[I") ∈ am_TB := am_tb 791 (by decide +kernel) (by decide +kernel)
theorem tw_792 : (Jvm.Cond.fieldLink "SheetKernelModel" (38 : Nat) "SheetKernelModel" "first" "[I") ∈ am_TB := am_tb 792 (by decide +kernel) (by decide +kernel)
theorem tw_793 : (Jvm.Cond.fieldLink "SheetKernelModel" (41 : Nat) "SheetKernelModel" "packed" "[I") ∈ am_TB := am_tb 793 (by decide +kernel) (by decide +kernel)
theorem tw_794 : (Jvm.Cond.fieldLink "SheetKernelModel" (44 : Nat) "SheetKernelModel" "words" "[I") ∈ am_TB := am_tb 794 (by decide +kernel) (by decide +kernel)
theorem tw_795 : (Jvm.Cond.fieldLink "SheetKernelModel" (47 : Nat) "SheetKernelModel" "isSheet" "[Z") ∈ am_TB := am_tb 795 (by decide +kernel) (by decide +kernel)
theorem tw_796 : (Jvm.Cond.fieldLink "SheetKernelModel" (50 : Nat) "SheetKernelModel" "frames" "[I") ∈ am_TB := am_tb 796 (by decide +kernel) (by decide +kernel)
theorem tw_797 : (Jvm.Cond.fieldLink "SheetKernelModel" (53 : Nat) "SheetKernelModel" "used" "[Z") ∈ am_TB := am_tb 797 (by decide +kernel) (by decide +kernel)
theorem tw_798 : (Jvm.Cond.fieldLink "SheetKernelModel" (56 : Nat) "SheetKernelModel" "changed" "[Z") ∈ am_TB := am_tb 798 (by decide +kernel) (by decide +kernel)
theorem tw_799 : (Jvm.Cond.fieldLink "SheetKernelModel" (116 : Nat) "SheetKernelModel" "hand" "I") ∈ am_TB := am_tb 799 (by decide +kernel) (by decide +kernel)
theorem tw_800 : (Jvm.Cond.fieldLink "SheetKernelModel" (59 : Nat) "SheetKernelModel" "slotOf" "[I") ∈ am_TB := am_tb 800 (by decide +kernel) (by decide +kernel)
theorem tw_801 : (Jvm.Cond.fieldLink "SheetKernelModel" (62 : Nat) "SheetKernelModel" "isBad" "[Z") ∈ am_TB := am_tb 801 (by decide +kernel) (by decide +kernel)
theorem tw_802 : (Jvm.Cond.fieldLink "SheetKernelModel" (65 : Nat) "SheetKernelModel" "fails" "[Z") ∈ am_TB := am_tb 802 (by decide +kernel) (by decide +kernel)
theorem tw_803 : (Jvm.Cond.fieldLink "SheetKernelModel" (68 : Nat) "SheetKernelModel" "isLost" "[Z") ∈ am_TB := am_tb 803 (by decide +kernel) (by decide +kernel)
theorem tw_857 : (Jvm.Cond.methodLink "SheetKernelModel" (154 : Nat) ({ cls := "SheetKernelModel", name := "fresh", desc := "()I" } : Jvm.MethodName)) ∈ am_TB := am_tb 857 (by decide +kernel) (by decide +kernel)
theorem tw_859 : (Jvm.Cond.instanceMethod ({ cls := "SheetKernelModel", name := "fresh", desc := "()I" } : Jvm.MethodName)) ∈ am_TB := am_tb 859 (by decide +kernel) (by decide +kernel)
theorem tw_860 : (Jvm.Cond.code ({ cls := "SheetKernelModel", name := "fresh", desc := "()I" } : Jvm.MethodName) prog_9_method_28_code (3 : Nat) (Option.some Jvm.ClassFile.FieldType.int)) ∈ am_TB := am_tb 860 (by decide +kernel) (by decide +kernel)
theorem tw_865 : (Jvm.Cond.methodLink "SheetKernelModel" (157 : Nat) ({ cls := "SheetKernelModel", name := "isLiving", desc := "(I)Z" } : Jvm.MethodName)) ∈ am_TB := am_tb 865 (by decide +kernel) (by decide +kernel)
theorem tw_867 : (Jvm.Cond.instanceMethod ({ cls := "SheetKernelModel", name := "isLiving", desc := "(I)Z" } : Jvm.MethodName)) ∈ am_TB := am_tb 867 (by decide +kernel) (by decide +kernel)
theorem tw_868 : (Jvm.Cond.code ({ cls := "SheetKernelModel", name := "isLiving", desc := "(I)Z" } : Jvm.MethodName) prog_9_method_27_code (2 : Nat) (Option.some Jvm.ClassFile.FieldType.boolean)) ∈ am_TB := am_tb 868 (by decide +kernel) (by decide +kernel)
theorem tw_869 : (Jvm.Cond.methodLink "SheetKernelModel" (150 : Nat) ({ cls := "SheetKernelModel", name := "isNumber", desc := "(II)Z" } : Jvm.MethodName)) ∈ am_TB := am_tb 869 (by decide +kernel) (by decide +kernel)
theorem tw_870 : (Jvm.Cond.static ({ cls := "SheetKernelModel", name := "isNumber", desc := "(II)Z" } : Jvm.MethodName)) ∈ am_TB := am_tb 870 (by decide +kernel) (by decide +kernel)
theorem tw_871 : (Jvm.Cond.code ({ cls := "SheetKernelModel", name := "isNumber", desc := "(II)Z" } : Jvm.MethodName) prog_9_method_26_code (2 : Nat) (Option.some Jvm.ClassFile.FieldType.boolean)) ∈ am_TB := am_tb 871 (by decide +kernel) (by decide +kernel)
theorem tw_872 : (Jvm.Cond.methodLink "SheetKernelModel" (160 : Nat) ({ cls := "SheetKernelModel", name := "areFree", desc := "(III)Z" } : Jvm.MethodName)) ∈ am_TB := am_tb 872 (by decide +kernel) (by decide +kernel)
theorem tw_874 : (Jvm.Cond.instanceMethod ({ cls := "SheetKernelModel", name := "areFree", desc := "(III)Z" } : Jvm.MethodName)) ∈ am_TB := am_tb 874 (by decide +kernel) (by decide +kernel)
theorem tw_875 : (Jvm.Cond.code ({ cls := "SheetKernelModel", name := "areFree", desc := "(III)Z" } : Jvm.MethodName) prog_9_method_31_code (6 : Nat) (Option.some Jvm.ClassFile.FieldType.boolean)) ∈ am_TB := am_tb 875 (by decide +kernel) (by decide +kernel)
theorem tw_876 : (Jvm.Cond.methodLink "SheetKernelModel" (147 : Nat) ({ cls := "SheetKernelModel", name := "newSheet", desc := "()I" } : Jvm.MethodName)) ∈ am_TB := am_tb 876 (by decide +kernel) (by decide +kernel)
theorem tw_878 : (Jvm.Cond.instanceMethod ({ cls := "SheetKernelModel", name := "newSheet", desc := "()I" } : Jvm.MethodName)) ∈ am_TB := am_tb 878 (by decide +kernel) (by decide +kernel)
theorem tw_879 : (Jvm.Cond.code ({ cls := "SheetKernelModel", name := "newSheet", desc := "()I" } : Jvm.MethodName) prog_9_method_5_code (3 : Nat) (Option.some Jvm.ClassFile.FieldType.int)) ∈ am_TB := am_tb 879 (by decide +kernel) (by decide +kernel)
theorem tw_884 : (Jvm.Cond.methodLink "SheetKernelModel" (164 : Nat) ({ cls := "SheetKernelModel", name := "areMapped", desc := "(III)Z" } : Jvm.MethodName)) ∈ am_TB := am_tb 884 (by decide +kernel) (by decide +kernel)
theorem tw_886 : (Jvm.Cond.instanceMethod ({ cls := "SheetKernelModel", name := "areMapped", desc := "(III)Z" } : Jvm.MethodName)) ∈ am_TB := am_tb 886 (by decide +kernel) (by decide +kernel)
theorem tw_887 : (Jvm.Cond.code ({ cls := "SheetKernelModel", name := "areMapped", desc := "(III)Z" } : Jvm.MethodName) prog_9_method_30_code (6 : Nat) (Option.some Jvm.ClassFile.FieldType.boolean)) ∈ am_TB := am_tb 887 (by decide +kernel) (by decide +kernel)
theorem tw_888 : (Jvm.Cond.methodLink "SheetKernelModel" (79 : Nat) ({ cls := "SheetKernelModel", name := "mappings", desc := "(I)I" } : Jvm.MethodName)) ∈ am_TB := am_tb 888 (by decide +kernel) (by decide +kernel)
theorem tw_890 : (Jvm.Cond.instanceMethod ({ cls := "SheetKernelModel", name := "mappings", desc := "(I)I" } : Jvm.MethodName)) ∈ am_TB := am_tb 890 (by decide +kernel) (by decide +kernel)
theorem tw_891 : (Jvm.Cond.code ({ cls := "SheetKernelModel", name := "mappings", desc := "(I)I" } : Jvm.MethodName) prog_9_method_3_code (4 : Nat) (Option.some Jvm.ClassFile.FieldType.int)) ∈ am_TB := am_tb 891 (by decide +kernel) (by decide +kernel)
theorem tw_896 : (Jvm.Cond.methodLink "SheetKernelModel" (92 : Nat) ({ cls := "SheetKernelModel", name := "unmap", desc := "(I)V" } : Jvm.MethodName)) ∈ am_TB := am_tb 896 (by decide +kernel) (by decide +kernel)
theorem tw_898 : (Jvm.Cond.instanceMethod ({ cls := "SheetKernelModel", name := "unmap", desc := "(I)V" } : Jvm.MethodName)) ∈ am_TB := am_tb 898 (by decide +kernel) (by decide +kernel)
theorem tw_899 : (Jvm.Cond.code ({ cls := "SheetKernelModel", name := "unmap", desc := "(I)V" } : Jvm.MethodName) prog_9_method_10_code (4 : Nat) (Option.none : Option Jvm.ClassFile.FieldType)) ∈ am_TB := am_tb 899 (by decide +kernel) (by decide +kernel)
theorem tw_900 : (Jvm.Cond.methodLink "SheetKernelModel" (83 : Nat) ({ cls := "SheetKernelModel", name := "frameOf", desc := "(I)I" } : Jvm.MethodName)) ∈ am_TB := am_tb 900 (by decide +kernel) (by decide +kernel)
theorem tw_902 : (Jvm.Cond.instanceMethod ({ cls := "SheetKernelModel", name := "frameOf", desc := "(I)I" } : Jvm.MethodName)) ∈ am_TB := am_tb 902 (by decide +kernel) (by decide +kernel)
theorem tw_903 : (Jvm.Cond.code ({ cls := "SheetKernelModel", name := "frameOf", desc := "(I)I" } : Jvm.MethodName) prog_9_method_4_code (3 : Nat) (Option.some Jvm.ClassFile.FieldType.int)) ∈ am_TB := am_tb 903 (by decide +kernel) (by decide +kernel)
theorem tw_904 : (Jvm.Cond.methodLink "SheetKernelModel" (86 : Nat) ({ cls := "SheetKernelModel", name := "clearFrame", desc := "(I)V" } : Jvm.MethodName)) ∈ am_TB := am_tb 904 (by decide +kernel) (by decide +kernel)
theorem tw_906 : (Jvm.Cond.instanceMethod ({ cls := "SheetKernelModel", name := "clearFrame", desc := "(I)V" } : Jvm.MethodName)) ∈ am_TB := am_tb 906 (by decide +kernel) (by decide +kernel)
theorem tw_907 : (Jvm.Cond.code ({ cls := "SheetKernelModel", name := "clearFrame", desc := "(I)V" } : Jvm.MethodName) prog_9_method_9_code (2 : Nat) (Option.none : Option Jvm.ClassFile.FieldType)) ∈ am_TB := am_tb 907 (by decide +kernel) (by decide +kernel)
theorem tw_908 : (Jvm.Cond.methodLink "SheetKernelModel" (89 : Nat) ({ cls := "SheetKernelModel", name := "freeSlots", desc := "(I)V" } : Jvm.MethodName)) ∈ am_TB := am_tb 908 (by decide +kernel) (by decide +kernel)
theorem tw_910 : (Jvm.Cond.instanceMethod ({ cls := "SheetKernelModel", name := "freeSlots", desc := "(I)V" } : Jvm.MethodName)) ∈ am_TB := am_tb 910 (by decide +kernel) (by decide +kernel)
theorem tw_911 : (Jvm.Cond.code ({ cls := "SheetKernelModel", name := "freeSlots", desc := "(I)V" } : Jvm.MethodName) prog_9_method_7_code (3 : Nat) (Option.none : Option Jvm.ClassFile.FieldType)) ∈ am_TB := am_tb 911 (by decide +kernel) (by decide +kernel)
theorem tw_912 : (Jvm.Cond.methodLink "SheetKernelModel" (75 : Nat) ({ cls := "SheetKernelModel", name := "freeSlot", desc := "(I)V" } : Jvm.MethodName)) ∈ am_TB := am_tb 912 (by decide +kernel) (by decide +kernel)
theorem tw_914 : (Jvm.Cond.instanceMethod ({ cls := "SheetKernelModel", name := "freeSlot", desc := "(I)V" } : Jvm.MethodName)) ∈ am_TB := am_tb 914 (by decide +kernel) (by decide +kernel)
theorem tw_915 : (Jvm.Cond.code ({ cls := "SheetKernelModel", name := "freeSlot", desc := "(I)V" } : Jvm.MethodName) prog_9_method_6_code (2 : Nat) (Option.none : Option Jvm.ClassFile.FieldType)) ∈ am_TB := am_tb 915 (by decide +kernel) (by decide +kernel)
theorem tw_920 : (Jvm.Cond.methodLink "SheetKernelModel" (167 : Nat) ({ cls := "SheetKernelModel", name := "divide", desc := "(I)I" } : Jvm.MethodName)) ∈ am_TB := am_tb 920 (by decide +kernel) (by decide +kernel)
theorem tw_922 : (Jvm.Cond.instanceMethod ({ cls := "SheetKernelModel", name := "divide", desc := "(I)I" } : Jvm.MethodName)) ∈ am_TB := am_tb 922 (by decide +kernel) (by decide +kernel)
theorem tw_923 : (Jvm.Cond.code ({ cls := "SheetKernelModel", name := "divide", desc := "(I)I" } : Jvm.MethodName) prog_9_method_35_code (6 : Nat) (Option.some Jvm.ClassFile.FieldType.int)) ∈ am_TB := am_tb 923 (by decide +kernel) (by decide +kernel)
theorem tw_928 : (Jvm.Cond.methodLink "SheetKernelModel" (131 : Nat) ({ cls := "SheetKernelModel", name := "end", desc := "(II)V" } : Jvm.MethodName)) ∈ am_TB := am_tb 928 (by decide +kernel) (by decide +kernel)
theorem tw_930 : (Jvm.Cond.instanceMethod ({ cls := "SheetKernelModel", name := "end", desc := "(II)V" } : Jvm.MethodName)) ∈ am_TB := am_tb 930 (by decide +kernel) (by decide +kernel)
theorem tw_931 : (Jvm.Cond.code ({ cls := "SheetKernelModel", name := "end", desc := "(II)V" } : Jvm.MethodName) prog_9_method_11_code (4 : Nat) (Option.none : Option Jvm.ClassFile.FieldType)) ∈ am_TB := am_tb 931 (by decide +kernel) (by decide +kernel)
theorem tw_936 : (Jvm.Cond.methodLink "SheetKernelModel" (174 : Nat) ({ cls := "SheetKernelModel", name := "access", desc := "(IIZZ)I" } : Jvm.MethodName)) ∈ am_TB := am_tb 936 (by decide +kernel) (by decide +kernel)
theorem tw_938 : (Jvm.Cond.instanceMethod ({ cls := "SheetKernelModel", name := "access", desc := "(IIZZ)I" } : Jvm.MethodName)) ∈ am_TB := am_tb 938 (by decide +kernel) (by decide +kernel)
theorem tw_939 : (Jvm.Cond.code ({ cls := "SheetKernelModel", name := "access", desc := "(IIZZ)I" } : Jvm.MethodName) prog_9_method_38_code (6 : Nat) (Option.some Jvm.ClassFile.FieldType.int)) ∈ am_TB := am_tb 939 (by decide +kernel) (by decide +kernel)
theorem tw_940 : (Jvm.Cond.methodLink "SheetKernelModel" (170 : Nat) ({ cls := "SheetKernelModel", name := "touch", desc := "(IIZZ)I" } : Jvm.MethodName)) ∈ am_TB := am_tb 940 (by decide +kernel) (by decide +kernel)
theorem tw_942 : (Jvm.Cond.instanceMethod ({ cls := "SheetKernelModel", name := "touch", desc := "(IIZZ)I" } : Jvm.MethodName)) ∈ am_TB := am_tb 942 (by decide +kernel) (by decide +kernel)
theorem tw_943 : (Jvm.Cond.code ({ cls := "SheetKernelModel", name := "touch", desc := "(IIZZ)I" } : Jvm.MethodName) prog_9_method_25_code (11 : Nat) (Option.some Jvm.ClassFile.FieldType.int)) ∈ am_TB := am_tb 943 (by decide +kernel) (by decide +kernel)
theorem tw_944 : (Jvm.Cond.methodLink "SheetKernelModel" (144 : Nat) ({ cls := "SheetKernelModel", name := "bring", desc := "(II)I" } : Jvm.MethodName)) ∈ am_TB := am_tb 944 (by decide +kernel) (by decide +kernel)
theorem tw_946 : (Jvm.Cond.instanceMethod ({ cls := "SheetKernelModel", name := "bring", desc := "(II)I" } : Jvm.MethodName)) ∈ am_TB := am_tb 946 (by decide +kernel) (by decide +kernel)
theorem tw_947 : (Jvm.Cond.code ({ cls := "SheetKernelModel", name := "bring", desc := "(II)I" } : Jvm.MethodName) prog_9_method_24_code (6 : Nat) (Option.some Jvm.ClassFile.FieldType.int)) ∈ am_TB := am_tb 947 (by decide +kernel) (by decide +kernel)
theorem tw_948 : (Jvm.Cond.methodLink "SheetKernelModel" (135 : Nat) ({ cls := "SheetKernelModel", name := "isGone", desc := "(I)Z" } : Jvm.MethodName)) ∈ am_TB := am_tb 948 (by decide +kernel) (by decide +kernel)
theorem tw_950 : (Jvm.Cond.instanceMethod ({ cls := "SheetKernelModel", name := "isGone", desc := "(I)Z" } : Jvm.MethodName)) ∈ am_TB := am_tb 950 (by decide +kernel) (by decide +kernel)
theorem tw_951 : (Jvm.Cond.code ({ cls := "SheetKernelModel", name := "isGone", desc := "(I)Z" } : Jvm.MethodName) prog_9_method_23_code (4 : Nat) (Option.some Jvm.ClassFile.FieldType.boolean)) ∈ am_TB := am_tb 951 (by decide +kernel) (by decide +kernel)
theorem tw_952 : (Jvm.Cond.methodLink "SheetKernelModel" (99 : Nat) ({ cls := "SheetKernelModel", name := "slotNumber", desc := "(II)I" } : Jvm.MethodName)) ∈ am_TB := am_tb 952 (by decide +kernel) (by decide +kernel)
theorem tw_954 : (Jvm.Cond.instanceMethod ({ cls := "SheetKernelModel", name := "slotNumber", desc := "(II)I" } : Jvm.MethodName)) ∈ am_TB := am_tb 954 (by decide +kernel) (by decide +kernel)
theorem tw_955 : (Jvm.Cond.code ({ cls := "SheetKernelModel", name := "slotNumber", desc := "(II)I" } : Jvm.MethodName) prog_9_method_8_code (5 : Nat) (Option.some Jvm.ClassFile.FieldType.int)) ∈ am_TB := am_tb 955 (by decide +kernel) (by decide +kernel)
theorem tw_956 : (Jvm.Cond.methodLink "SheetKernelModel" (138 : Nat) ({ cls := "SheetKernelModel", name := "fault", desc := "(II)V" } : Jvm.MethodName)) ∈ am_TB := am_tb 956 (by decide +kernel) (by decide +kernel)
theorem tw_958 : (Jvm.Cond.instanceMethod ({ cls := "SheetKernelModel", name := "fault", desc := "(II)V" } : Jvm.MethodName)) ∈ am_TB := am_tb 958 (by decide +kernel) (by decide +kernel)
theorem tw_959 : (Jvm.Cond.code ({ cls := "SheetKernelModel", name := "fault", desc := "(II)V" } : Jvm.MethodName) prog_9_method_22_code (3 : Nat) (Option.none : Option Jvm.ClassFile.FieldType)) ∈ am_TB := am_tb 959 (by decide +kernel) (by decide +kernel)
theorem tw_960 : (Jvm.Cond.methodLink "SheetKernelModel" (141 : Nat) ({ cls := "SheetKernelModel", name := "findFrame", desc := "(II)I" } : Jvm.MethodName)) ∈ am_TB := am_tb 960 (by decide +kernel) (by decide +kernel)
theorem tw_962 : (Jvm.Cond.instanceMethod ({ cls := "SheetKernelModel", name := "findFrame", desc := "(II)I" } : Jvm.MethodName)) ∈ am_TB := am_tb 962 (by decide +kernel) (by decide +kernel)
theorem tw_963 : (Jvm.Cond.code ({ cls := "SheetKernelModel", name := "findFrame", desc := "(II)I" } : Jvm.MethodName) prog_9_method_21_code (6 : Nat) (Option.some Jvm.ClassFile.FieldType.int)) ∈ am_TB := am_tb 963 (by decide +kernel) (by decide +kernel)
theorem tw_964 : (Jvm.Cond.methodLink "SheetKernelModel" (122 : Nat) ({ cls := "SheetKernelModel", name := "empty", desc := "(I)Z" } : Jvm.MethodName)) ∈ am_TB := am_tb 964 (by decide +kernel) (by decide +kernel)
theorem tw_966 : (Jvm.Cond.instanceMethod ({ cls := "SheetKernelModel", name := "empty", desc := "(I)Z" } : Jvm.MethodName)) ∈ am_TB := am_tb 966 (by decide +kernel) (by decide +kernel)
theorem tw_967 : (Jvm.Cond.code ({ cls := "SheetKernelModel", name := "empty", desc := "(I)Z" } : Jvm.MethodName) prog_9_method_17_code (7 : Nat) (Option.some Jvm.ClassFile.FieldType.boolean)) ∈ am_TB := am_tb 967 (by decide +kernel) (by decide +kernel)
theorem tw_968 : (Jvm.Cond.methodLink "SheetKernelModel" (103 : Nat) ({ cls := "SheetKernelModel", name := "packs", desc := "(I)I" } : Jvm.MethodName)) ∈ am_TB := am_tb 968 (by decide +kernel) (by decide +kernel)
theorem tw_970 : (Jvm.Cond.instanceMethod ({ cls := "SheetKernelModel", name := "packs", desc := "(I)I" } : Jvm.MethodName)) ∈ am_TB := am_tb 970 (by decide +kernel) (by decide +kernel)
theorem tw_971 : (Jvm.Cond.code ({ cls := "SheetKernelModel", name := "packs", desc := "(I)I" } : Jvm.MethodName) prog_9_method_12_code (5 : Nat) (Option.some Jvm.ClassFile.FieldType.int)) ∈ am_TB := am_tb 971 (by decide +kernel) (by decide +kernel)
theorem tw_972 : (Jvm.Cond.methodLink "SheetKernelModel" (106 : Nat) ({ cls := "SheetKernelModel", name := "room", desc := "(I)I" } : Jvm.MethodName)) ∈ am_TB := am_tb 972 (by decide +kernel) (by decide +kernel)
theorem tw_974 : (Jvm.Cond.instanceMethod ({ cls := "SheetKernelModel", name := "room", desc := "(I)I" } : Jvm.MethodName)) ∈ am_TB := am_tb 974 (by decide +kernel) (by decide +kernel)
theorem tw_975 : (Jvm.Cond.code ({ cls := "SheetKernelModel", name := "room", desc := "(I)I" } : Jvm.MethodName) prog_9_method_14_code (4 : Nat) (Option.some Jvm.ClassFile.FieldType.int)) ∈ am_TB := am_tb 975 (by decide +kernel) (by decide +kernel)
theorem tw_976 : (Jvm.Cond.methodLink "SheetKernelModel" (95 : Nat) ({ cls := "SheetKernelModel", name := "isTaken", desc := "(I)Z" } : Jvm.MethodName)) ∈ am_TB := am_tb 976 (by decide +kernel) (by decide +kernel)
theorem tw_978 : (Jvm.Cond.instanceMethod ({ cls := "SheetKernelModel", name := "isTaken", desc := "(I)Z" } : Jvm.MethodName)) ∈ am_TB := am_tb 978 (by decide +kernel) (by decide +kernel)
theorem tw_979 : (Jvm.Cond.code ({ cls := "SheetKernelModel", name := "isTaken", desc := "(I)Z" } : Jvm.MethodName) prog_9_method_13_code (4 : Nat) (Option.some Jvm.ClassFile.FieldType.boolean)) ∈ am_TB := am_tb 979 (by decide +kernel) (by decide +kernel)
theorem tw_980 : (Jvm.Cond.methodLink "SheetKernelModel" (109 : Nat) ({ cls := "SheetKernelModel", name := "writeSlot", desc := "()I" } : Jvm.MethodName)) ∈ am_TB := am_tb 980 (by decide +kernel) (by decide +kernel)
theorem tw_982 : (Jvm.Cond.instanceMethod ({ cls := "SheetKernelModel", name := "writeSlot", desc := "()I" } : Jvm.MethodName)) ∈ am_TB := am_tb 982 (by decide +kernel) (by decide +kernel)
theorem tw_983 : (Jvm.Cond.code ({ cls := "SheetKernelModel", name := "writeSlot", desc := "()I" } : Jvm.MethodName) prog_9_method_16_code (2 : Nat) (Option.some Jvm.ClassFile.FieldType.int)) ∈ am_TB := am_tb 983 (by decide +kernel) (by decide +kernel)
theorem tw_984 : (Jvm.Cond.methodLink "SheetKernelModel" (113 : Nat) ({ cls := "SheetKernelModel", name := "isValuable", desc := "(I)Z" } : Jvm.MethodName)) ∈ am_TB := am_tb 984 (by decide +kernel) (by decide +kernel)
theorem tw_986 : (Jvm.Cond.instanceMethod ({ cls := "SheetKernelModel", name := "isValuable", desc := "(I)Z" } : Jvm.MethodName)) ∈ am_TB := am_tb 986 (by decide +kernel) (by decide +kernel)
theorem tw_987 : (Jvm.Cond.code ({ cls := "SheetKernelModel", name := "isValuable", desc := "(I)Z" } : Jvm.MethodName) prog_9_method_15_code (4 : Nat) (Option.some Jvm.ClassFile.FieldType.boolean)) ∈ am_TB := am_tb 987 (by decide +kernel) (by decide +kernel)
theorem tw_988 : (Jvm.Cond.methodLink "SheetKernelModel" (125 : Nat) ({ cls := "SheetKernelModel", name := "goOn", desc := "(I)V" } : Jvm.MethodName)) ∈ am_TB := am_tb 988 (by decide +kernel) (by decide +kernel)
theorem tw_990 : (Jvm.Cond.instanceMethod ({ cls := "SheetKernelModel", name := "goOn", desc := "(I)V" } : Jvm.MethodName)) ∈ am_TB := am_tb 990 (by decide +kernel) (by decide +kernel)
theorem tw_991 : (Jvm.Cond.code ({ cls := "SheetKernelModel", name := "goOn", desc := "(I)V" } : Jvm.MethodName) prog_9_method_18_code (3 : Nat) (Option.none : Option Jvm.ClassFile.FieldType)) ∈ am_TB := am_tb 991 (by decide +kernel) (by decide +kernel)
theorem tw_992 : (Jvm.Cond.methodLink "SheetKernelModel" (128 : Nat) ({ cls := "SheetKernelModel", name := "victim", desc := "(I)I" } : Jvm.MethodName)) ∈ am_TB := am_tb 992 (by decide +kernel) (by decide +kernel)
theorem tw_994 : (Jvm.Cond.instanceMethod ({ cls := "SheetKernelModel", name := "victim", desc := "(I)I" } : Jvm.MethodName)) ∈ am_TB := am_tb 994 (by decide +kernel) (by decide +kernel)
theorem tw_995 : (Jvm.Cond.code ({ cls := "SheetKernelModel", name := "victim", desc := "(I)I" } : Jvm.MethodName) prog_9_method_20_code (5 : Nat) (Option.some Jvm.ClassFile.FieldType.int)) ∈ am_TB := am_tb 995 (by decide +kernel) (by decide +kernel)
theorem tw_996 : (Jvm.Cond.methodLink "SheetKernelModel" (119 : Nat) ({ cls := "SheetKernelModel", name := "privates", desc := "(I)I" } : Jvm.MethodName)) ∈ am_TB := am_tb 996 (by decide +kernel) (by decide +kernel)
theorem tw_998 : (Jvm.Cond.instanceMethod ({ cls := "SheetKernelModel", name := "privates", desc := "(I)I" } : Jvm.MethodName)) ∈ am_TB := am_tb 998 (by decide +kernel) (by decide +kernel)
theorem tw_999 : (Jvm.Cond.code ({ cls := "SheetKernelModel", name := "privates", desc := "(I)I" } : Jvm.MethodName) prog_9_method_19_code (4 : Nat) (Option.some Jvm.ClassFile.FieldType.int)) ∈ am_TB := am_tb 999 (by decide +kernel) (by decide +kernel)
theorem tw_1012 : (Jvm.Cond.methodLink "SheetKernelModel" (181 : Nat) ({ cls := "SheetKernelModel", name := "step", desc := "(I)V" } : Jvm.MethodName)) ∈ am_TB := am_tb 1012 (by decide +kernel) (by decide +kernel)
theorem tw_1014 : (Jvm.Cond.instanceMethod ({ cls := "SheetKernelModel", name := "step", desc := "(I)V" } : Jvm.MethodName)) ∈ am_TB := am_tb 1014 (by decide +kernel) (by decide +kernel)
theorem tw_1015 : (Jvm.Cond.code ({ cls := "SheetKernelModel", name := "step", desc := "(I)V" } : Jvm.MethodName) prog_9_method_43_code (8 : Nat) (Option.none : Option Jvm.ClassFile.FieldType)) ∈ am_TB := am_tb 1015 (by decide +kernel) (by decide +kernel)
theorem tw_1016 : (Jvm.Cond.methodLink "SheetKernelModel" (177 : Nat) ({ cls := "SheetKernelModel", name := "reaches", desc := "(IIZ)Z" } : Jvm.MethodName)) ∈ am_TB := am_tb 1016 (by decide +kernel) (by decide +kernel)
theorem tw_1018 : (Jvm.Cond.instanceMethod ({ cls := "SheetKernelModel", name := "reaches", desc := "(IIZ)Z" } : Jvm.MethodName)) ∈ am_TB := am_tb 1018 (by decide +kernel) (by decide +kernel)
theorem tw_1019 : (Jvm.Cond.code ({ cls := "SheetKernelModel", name := "reaches", desc := "(IIZ)Z" } : Jvm.MethodName) prog_9_method_42_code (5 : Nat) (Option.some Jvm.ClassFile.FieldType.boolean)) ∈ am_TB := am_tb 1019 (by decide +kernel) (by decide +kernel)
theorem tw_1032 : (Jvm.Cond.methodLink "SheetKernelModel" (184 : Nat) ({ cls := "SheetKernelModel", name := "freeFrames", desc := "()I" } : Jvm.MethodName)) ∈ am_TB := am_tb 1032 (by decide +kernel) (by decide +kernel)
theorem tw_1034 : (Jvm.Cond.instanceMethod ({ cls := "SheetKernelModel", name := "freeFrames", desc := "()I" } : Jvm.MethodName)) ∈ am_TB := am_tb 1034 (by decide +kernel) (by decide +kernel)
theorem tw_1035 : (Jvm.Cond.code ({ cls := "SheetKernelModel", name := "freeFrames", desc := "()I" } : Jvm.MethodName) prog_9_method_47_code (3 : Nat) (Option.some Jvm.ClassFile.FieldType.int)) ∈ am_TB := am_tb 1035 (by decide +kernel) (by decide +kernel)
theorem tw_375 : (Jvm.Cond.classLink "SheetKernel" (48 : Nat) "java/lang/IllegalStateException") ∈ am_TB := am_tb 375 (by decide +kernel) (by decide +kernel)
theorem tw_71 : (Jvm.Cond.initialized "java/lang/IllegalStateException") ∈ am_TB := am_tb 71 (by decide +kernel) (by decide +kernel)
set_option maxRecDepth 100000 in
theorem th_48_52_3 : am_Tw 48 52 3 := ⟨tw_375, tw_71, by decide +kernel, fun w h => List.mem_filter.mpr ⟨(by decide +kernel : ∀ w ∈ (vx_atS "SheetKernel" 52 (am_en 3) ["java/lang/RuntimeException", "java/lang/Exception"]).filter goodWord, w ∈ lw_tbl) w h, (List.mem_filter.mp h).2⟩, by decide +kernel, by decide +kernel, by decide +kernel⟩
theorem tw_486 : (Jvm.Cond.classLink "SheetKernel" (69 : Nat) "java/lang/IllegalArgumentException") ∈ am_TB := am_tb 486 (by decide +kernel) (by decide +kernel)
theorem tw_73 : (Jvm.Cond.initialized "java/lang/IllegalArgumentException") ∈ am_TB := am_tb 73 (by decide +kernel) (by decide +kernel)
set_option maxRecDepth 100000 in
theorem th_69_73_2 : am_Tw 69 73 2 := ⟨tw_486, tw_73, by decide +kernel, fun w h => List.mem_filter.mpr ⟨(by decide +kernel : ∀ w ∈ (vx_atS "SheetKernel" 73 (am_en 2) ["java/lang/RuntimeException", "java/lang/Exception"]).filter goodWord, w ∈ lw_tbl) w h, (List.mem_filter.mp h).2⟩, by decide +kernel, by decide +kernel, by decide +kernel⟩
theorem tw_461 : (Jvm.Cond.classLink "SheetKernel" (155 : Nat) "java/lang/IndexOutOfBoundsException") ∈ am_TB := am_tb 461 (by decide +kernel) (by decide +kernel)
theorem tw_72 : (Jvm.Cond.initialized "java/lang/IndexOutOfBoundsException") ∈ am_TB := am_tb 72 (by decide +kernel) (by decide +kernel)
set_option maxRecDepth 100000 in
theorem th_155_159_1 : am_Tw 155 159 1 := ⟨tw_461, tw_72, by decide +kernel, fun w h => List.mem_filter.mpr ⟨(by decide +kernel : ∀ w ∈ (vx_atS "SheetKernel" 159 (am_en 1) ["java/lang/RuntimeException", "java/lang/Exception"]).filter goodWord, w ∈ lw_tbl) w h, (List.mem_filter.mp h).2⟩, by decide +kernel, by decide +kernel, by decide +kernel⟩
theorem tw_702 : (Jvm.Cond.classLink "SheetKernel" (357 : Nat) "java/lang/UnsupportedOperationException") ∈ am_TB := am_tb 702 (by decide +kernel) (by decide +kernel)
theorem tw_74 : (Jvm.Cond.initialized "java/lang/UnsupportedOperationException") ∈ am_TB := am_tb 74 (by decide +kernel) (by decide +kernel)
set_option maxRecDepth 100000 in
theorem th_357_361_4 : am_Tw 357 361 4 := ⟨tw_702, tw_74, by decide +kernel, fun w h => List.mem_filter.mpr ⟨(by decide +kernel : ∀ w ∈ (vx_atS "SheetKernel" 361 (am_en 4) ["java/lang/RuntimeException", "java/lang/Exception"]).filter goodWord, w ∈ lw_tbl) w h, (List.mem_filter.mp h).2⟩, by decide +kernel, by decide +kernel, by decide +kernel⟩
end
section
noncomputable def tX0_lowestRow : List (Nat × am_I) := [(0, im_ic 0 1), (1, im_is 2 1), (2, im_ic 0 1), (3, im_is 3 1), (4, im_il 3 1), (5, im_ic 64 2), (7, im_cge 44), (10, im_al 0 1), (11, im_gf 11 0 12), (14, im_il 3 1), (15, im_ba), (16, im_feq 23), (19, im_ic 0 1), (20, im_go 26), (23, im_il 2 1), (24, im_ic 1 1), (25, im_add), (26, im_is 2 1), (27, im_il 2 1), (28, im_il 1 1), (29, im_cne 38), (32, im_il 3 1), (33, im_ic 1 1), (34, im_add), (35, im_il 1 1), (36, im_sub), (37, im_ri), (38, im_in 3 1), (41, im_go 4), (44, im_ic (-1) 1), (45, im_ri)]
theorem lX0_lowestRow : am_linT tX0_lowestRow := List.forall_mem_cons.mpr ⟨ln_ic _ _, List.forall_mem_cons.mpr ⟨ln_is _ _, List.forall_mem_cons.mpr ⟨ln_ic _ _, List.forall_mem_cons.mpr ⟨ln_is _ _, List.forall_mem_cons.mpr ⟨ln_il _ _, List.forall_mem_cons.mpr ⟨ln_ic _ _, List.forall_mem_cons.mpr ⟨ln_cge _, List.forall_mem_cons.mpr ⟨ln_al _ _, List.forall_mem_cons.mpr ⟨ln_gf 11 0 12, List.forall_mem_cons.mpr ⟨ln_il _ _, List.forall_mem_cons.mpr ⟨ln_ba, List.forall_mem_cons.mpr ⟨ln_feq _, List.forall_mem_cons.mpr ⟨ln_ic _ _, List.forall_mem_cons.mpr ⟨ln_go _, List.forall_mem_cons.mpr ⟨ln_il _ _, List.forall_mem_cons.mpr ⟨ln_ic _ _, List.forall_mem_cons.mpr ⟨ln_add, List.forall_mem_cons.mpr ⟨ln_is _ _, List.forall_mem_cons.mpr ⟨ln_il _ _, List.forall_mem_cons.mpr ⟨ln_il _ _, List.forall_mem_cons.mpr ⟨ln_cne _, List.forall_mem_cons.mpr ⟨ln_il _ _, List.forall_mem_cons.mpr ⟨ln_ic _ _, List.forall_mem_cons.mpr ⟨ln_add, List.forall_mem_cons.mpr ⟨ln_il _ _, List.forall_mem_cons.mpr ⟨ln_sub, List.forall_mem_cons.mpr ⟨ln_ri, List.forall_mem_cons.mpr ⟨ln_in _ _, List.forall_mem_cons.mpr ⟨ln_go _, List.forall_mem_cons.mpr ⟨ln_ic _ _, List.forall_mem_cons.mpr ⟨ln_ri, fun _ h => absurd h List.not_mem_nil⟩⟩⟩⟩⟩⟩⟩⟩⟩⟩⟩⟩⟩⟩⟩⟩⟩⟩⟩⟩⟩⟩⟩⟩⟩⟩⟩⟩⟩⟩⟩
def rX0_lowestRow : Room := { frames := 0, cells := 1, slots := 6, locals := 0 }
set_option maxRecDepth 100000 in
theorem hX0_lowestRow {p : Program} {l : Launch} {e : Env} {s : State} {m : MethodId} {args : Array Value} {below : List Frame} {meth : Method} {c : Code} {D : va_G} {cy : Nat → ClassId} {o : Nat} (hl : l.stackTraces = false) (hX : am_X p l rX0_lowestRow s m args meth c D cy o cX0_lowestRow 4 yX0_lowestRow.cls (some .int)) : ∀ q ∈ tX0_lowestRow, am_OK p l e rX0_lowestRow s m args below meth c D cy o 4 q.1 q.2 := List.forall_mem_cons.mpr ⟨ok_ic hX (n := 0) (by decide +kernel) (by decide), List.forall_mem_cons.mpr ⟨ok_isn hX (k := 2) (by decide +kernel) rfl (by decide), List.forall_mem_cons.mpr ⟨ok_ic hX (n := 0) (by decide +kernel) (by decide), List.forall_mem_cons.mpr ⟨ok_isn hX (k := 3) (by decide +kernel) rfl (by decide), List.forall_mem_cons.mpr ⟨ok_iln hX (k := 3) (by decide +kernel) rfl, List.forall_mem_cons.mpr ⟨ok_bi hX (n := 64) (by decide +kernel) (by decide), List.forall_mem_cons.mpr ⟨ok_cge hX (off := 37) (by decide +kernel) (by decide), List.forall_mem_cons.mpr ⟨ok_aln hX (k := 0) (by decide +kernel) rfl, List.forall_mem_cons.mpr ⟨ok_gf hX (f := 11) (j := 0) (idx := 9) (C := RX0) (T := TX0) (N := 3) (by decide) rfl rfl rfl (by decide) iw0 tw_183 rfl rfl rfl (by decide +kernel), List.forall_mem_cons.mpr ⟨ok_iln hX (k := 3) (by decide +kernel) rfl, List.forall_mem_cons.mpr ⟨ok_ba hX (by decide +kernel), List.forall_mem_cons.mpr ⟨ok_feq hX (off := 7) (by decide +kernel) (by decide), List.forall_mem_cons.mpr ⟨ok_ic hX (n := 0) (by decide +kernel) (by decide), List.forall_mem_cons.mpr ⟨ok_go hX (off := 6) (by decide +kernel) (by decide), List.forall_mem_cons.mpr ⟨ok_iln hX (k := 2) (by decide +kernel) rfl, List.forall_mem_cons.mpr ⟨ok_ic hX (n := 1) (by decide +kernel) (by decide), List.forall_mem_cons.mpr ⟨ok_add hX (by decide +kernel), List.forall_mem_cons.mpr ⟨ok_isn hX (k := 2) (by decide +kernel) rfl (by decide), List.forall_mem_cons.mpr ⟨ok_iln hX (k := 2) (by decide +kernel) rfl, List.forall_mem_cons.mpr ⟨ok_iln hX (k := 1) (by decide +kernel) rfl, List.forall_mem_cons.mpr ⟨ok_cne hX (off := 9) (by decide +kernel) (by decide), List.forall_mem_cons.mpr ⟨ok_iln hX (k := 3) (by decide +kernel) rfl, List.forall_mem_cons.mpr ⟨ok_ic hX (n := 1) (by decide +kernel) (by decide), List.forall_mem_cons.mpr ⟨ok_add hX (by decide +kernel), List.forall_mem_cons.mpr ⟨ok_iln hX (k := 1) (by decide +kernel) rfl, List.forall_mem_cons.mpr ⟨ok_sub hX (by decide +kernel), List.forall_mem_cons.mpr ⟨ok_ri hX (by decide +kernel) rfl, List.forall_mem_cons.mpr ⟨ok_in hX (n := 1) (by decide +kernel) (by decide) (by decide), List.forall_mem_cons.mpr ⟨ok_go hX (off := (-37)) (by decide +kernel) (by decide), List.forall_mem_cons.mpr ⟨ok_ic hX (n := (-1)) (by decide +kernel) (by decide), List.forall_mem_cons.mpr ⟨ok_ri hX (by decide +kernel) rfl, fun _ h => absurd h List.not_mem_nil⟩⟩⟩⟩⟩⟩⟩⟩⟩⟩⟩⟩⟩⟩⟩⟩⟩⟩⟩⟩⟩⟩⟩⟩⟩⟩⟩⟩⟩⟩⟩
theorem kX0_lowestRow (l : Launch) (hl : l.stackTraces = false) : am_Ct l yX0_lowestRow cX0_lowestRow 4 (some .int) rX0_lowestRow (am_M tX0_lowestRow 4) := am_met hl (by decide +kernel) ⟨rfl, rfl⟩ (fun _ _ _ _ _ _ _ _ _ _ _ hX => hX0_lowestRow hl hX)
noncomputable def vX0_lowestRow (a1 : Int32) (g : am_S) : am_R := am_E tX0_lowestRow (0, [some (.inr (.inr (11, 0))), some (.inl a1), none, none], [], g)
noncomputable def vX0_lowestRow_4 (a1 : Int32) (a2 : Int32) (a3 : Int32) (g : am_S) : am_R := am_E tX0_lowestRow (4, [some (.inr (.inr (11, 0))), some (.inl a1), some (.inl a2), some (.inl a3)], [], g)
noncomputable def vX0_lowestRow_26 (a1 : Int32) (a2 : Int32) (a3 : Int32) (s0 : Int32) (g : am_S) : am_R := am_E tX0_lowestRow (26, [some (.inr (.inr (11, 0))), some (.inl a1), some (.inl a2), some (.inl a3)], [.inl s0], g)
theorem eX0_lowestRow (a1 : Int32) (g : am_S) : vX0_lowestRow a1 g = vX0_lowestRow_4 a1 0 0 g := (am_E_blk lX0_lowestRow [4, 26] 36 _).trans rfl
theorem eX0_lowestRow_4 (a1 : Int32) (a2 : Int32) (a3 : Int32) (g : am_S) : vX0_lowestRow_4 a1 a2 a3 g = if 64 ≤ a3 then (some (.inl (some (.inl (-1))), g)) else am_g (am_in a3 64) (if (g 12 0 a3.toNatClampNeg) = 0 then (vX0_lowestRow_26 a1 a2 a3 (a2 + 1) g) else vX0_lowestRow_26 a1 a2 a3 0 g) := (am_E_blk lX0_lowestRow [4, 26] 36 _).trans rfl
theorem eX0_lowestRow_26 (a1 : Int32) (a2 : Int32) (a3 : Int32) (s0 : Int32) (g : am_S) : vX0_lowestRow_26 a1 a2 a3 s0 g = if s0 = a1 then (some (.inl (some (.inl ((a3 + 1) - a1))), g)) else vX0_lowestRow_4 a1 s0 (a3 + 1) g := (am_E_blk lX0_lowestRow [4, 26] 36 _).trans rfl
noncomputable def tX3_packedBytes : List (Nat × am_I) := [(0, im_ic 0 1), (1, im_is 1 1), (2, im_ic 0 1), (3, im_is 2 1), (4, im_il 2 1), (5, im_ic 8 2), (7, im_cge 83), (10, im_al 0 1), (11, im_gf 5 0 6), (14, im_il 2 1), (15, im_ia), (16, im_is 3 1), (17, im_il 2 1), (18, im_fle 36), (21, im_il 3 1), (22, im_al 0 1), (23, im_gf 5 0 6), (26, im_il 2 1), (27, im_ic 1 1), (28, im_sub), (29, im_ia), (30, im_cne 36), (33, im_go 77), (36, im_il 3 1), (37, im_ic (-128) 2), (39, im_clt 54), (42, im_il 3 1), (43, im_ic 127 2), (45, im_cgt 54), (48, im_in 1 2), (51, im_go 77), (54, im_il 3 1), (55, im_ic (-32768) 3), (58, im_clt 74), (61, im_il 3 1), (62, im_ic 32767 3), (65, im_cgt 74), (68, im_in 1 3), (71, im_go 77), (74, im_in 1 5), (77, im_in 2 1), (80, im_go 4), (83, im_il 1 1), (84, im_ri)]
theorem lX3_packedBytes : am_linT tX3_packedBytes := List.forall_mem_cons.mpr ⟨ln_ic _ _, List.forall_mem_cons.mpr ⟨ln_is _ _, List.forall_mem_cons.mpr ⟨ln_ic _ _, List.forall_mem_cons.mpr ⟨ln_is _ _, List.forall_mem_cons.mpr ⟨ln_il _ _, List.forall_mem_cons.mpr ⟨ln_ic _ _, List.forall_mem_cons.mpr ⟨ln_cge _, List.forall_mem_cons.mpr ⟨ln_al _ _, List.forall_mem_cons.mpr ⟨ln_gf 5 0 6, List.forall_mem_cons.mpr ⟨ln_il _ _, List.forall_mem_cons.mpr ⟨ln_ia, List.forall_mem_cons.mpr ⟨ln_is _ _, List.forall_mem_cons.mpr ⟨ln_il _ _, List.forall_mem_cons.mpr ⟨ln_fle _, List.forall_mem_cons.mpr ⟨ln_il _ _, List.forall_mem_cons.mpr ⟨ln_al _ _, List.forall_mem_cons.mpr ⟨ln_gf 5 0 6, List.forall_mem_cons.mpr ⟨ln_il _ _, List.forall_mem_cons.mpr ⟨ln_ic _ _, List.forall_mem_cons.mpr ⟨ln_sub, List.forall_mem_cons.mpr ⟨ln_ia, List.forall_mem_cons.mpr ⟨ln_cne _, List.forall_mem_cons.mpr ⟨ln_go _, List.forall_mem_cons.mpr ⟨ln_il _ _, List.forall_mem_cons.mpr ⟨ln_ic _ _, List.forall_mem_cons.mpr ⟨ln_clt _, List.forall_mem_cons.mpr ⟨ln_il _ _, List.forall_mem_cons.mpr ⟨ln_ic _ _, List.forall_mem_cons.mpr ⟨ln_cgt _, List.forall_mem_cons.mpr ⟨ln_in _ _, List.forall_mem_cons.mpr ⟨ln_go _, List.forall_mem_cons.mpr ⟨ln_il _ _, List.forall_mem_cons.mpr ⟨ln_ic _ _, List.forall_mem_cons.mpr ⟨ln_clt _, List.forall_mem_cons.mpr ⟨ln_il _ _, List.forall_mem_cons.mpr ⟨ln_ic _ _, List.forall_mem_cons.mpr ⟨ln_cgt _, List.forall_mem_cons.mpr ⟨ln_in _ _, List.forall_mem_cons.mpr ⟨ln_go _, List.forall_mem_cons.mpr ⟨ln_in _ _, List.forall_mem_cons.mpr ⟨ln_in _ _, List.forall_mem_cons.mpr ⟨ln_go _, List.forall_mem_cons.mpr ⟨ln_il _ _, List.forall_mem_cons.mpr ⟨ln_ri, fun _ h => absurd h List.not_mem_nil⟩⟩⟩⟩⟩⟩⟩⟩⟩⟩⟩⟩⟩⟩⟩⟩⟩⟩⟩⟩⟩⟩⟩⟩⟩⟩⟩⟩⟩⟩⟩⟩⟩⟩⟩⟩⟩⟩⟩⟩⟩⟩⟩⟩
def rX3_packedBytes : Room := { frames := 0, cells := 1, slots := 6, locals := 0 }
set_option maxRecDepth 100000 in
theorem hX3_packedBytes {p : Program} {l : Launch} {e : Env} {s : State} {m : MethodId} {args : Array Value} {below : List Frame} {meth : Method} {c : Code} {D : va_G} {cy : Nat → ClassId} {o : Nat} (hl : l.stackTraces = false) (hX : am_X p l rX3_packedBytes s m args meth c D cy o cX3_packedBytes 4 yX3_packedBytes.cls (some .int)) : ∀ q ∈ tX3_packedBytes, am_OK p l e rX3_packedBytes s m args below meth c D cy o 4 q.1 q.2 := List.forall_mem_cons.mpr ⟨ok_ic hX (n := 0) (by decide +kernel) (by decide), List.forall_mem_cons.mpr ⟨ok_isn hX (k := 1) (by decide +kernel) rfl (by decide), List.forall_mem_cons.mpr ⟨ok_ic hX (n := 0) (by decide +kernel) (by decide), List.forall_mem_cons.mpr ⟨ok_isn hX (k := 2) (by decide +kernel) rfl (by decide), List.forall_mem_cons.mpr ⟨ok_iln hX (k := 2) (by decide +kernel) rfl, List.forall_mem_cons.mpr ⟨ok_bi hX (n := 8) (by decide +kernel) (by decide), List.forall_mem_cons.mpr ⟨ok_cge hX (off := 76) (by decide +kernel) (by decide), List.forall_mem_cons.mpr ⟨ok_aln hX (k := 0) (by decide +kernel) rfl, List.forall_mem_cons.mpr ⟨ok_gf hX (f := 5) (j := 0) (idx := 9) (C := RX3) (T := TX3) (N := 8) (by decide) rfl rfl rfl (by decide) iw3 tw_98 rfl rfl rfl (by decide +kernel), List.forall_mem_cons.mpr ⟨ok_iln hX (k := 2) (by decide +kernel) rfl, List.forall_mem_cons.mpr ⟨ok_ia hX (by decide +kernel), List.forall_mem_cons.mpr ⟨ok_isn hX (k := 3) (by decide +kernel) rfl (by decide), List.forall_mem_cons.mpr ⟨ok_iln hX (k := 2) (by decide +kernel) rfl, List.forall_mem_cons.mpr ⟨ok_fle hX (off := 18) (by decide +kernel) (by decide), List.forall_mem_cons.mpr ⟨ok_iln hX (k := 3) (by decide +kernel) rfl, List.forall_mem_cons.mpr ⟨ok_aln hX (k := 0) (by decide +kernel) rfl, List.forall_mem_cons.mpr ⟨ok_gf hX (f := 5) (j := 0) (idx := 9) (C := RX3) (T := TX3) (N := 8) (by decide) rfl rfl rfl (by decide) iw3 tw_98 rfl rfl rfl (by decide +kernel), List.forall_mem_cons.mpr ⟨ok_iln hX (k := 2) (by decide +kernel) rfl, List.forall_mem_cons.mpr ⟨ok_ic hX (n := 1) (by decide +kernel) (by decide), List.forall_mem_cons.mpr ⟨ok_sub hX (by decide +kernel), List.forall_mem_cons.mpr ⟨ok_ia hX (by decide +kernel), List.forall_mem_cons.mpr ⟨ok_cne hX (off := 6) (by decide +kernel) (by decide), List.forall_mem_cons.mpr ⟨ok_go hX (off := 44) (by decide +kernel) (by decide), List.forall_mem_cons.mpr ⟨ok_iln hX (k := 3) (by decide +kernel) rfl, List.forall_mem_cons.mpr ⟨ok_bi hX (n := (-128)) (by decide +kernel) (by decide), List.forall_mem_cons.mpr ⟨ok_clt hX (off := 15) (by decide +kernel) (by decide), List.forall_mem_cons.mpr ⟨ok_iln hX (k := 3) (by decide +kernel) rfl, List.forall_mem_cons.mpr ⟨ok_bi hX (n := 127) (by decide +kernel) (by decide), List.forall_mem_cons.mpr ⟨ok_cgt hX (off := 9) (by decide +kernel) (by decide), List.forall_mem_cons.mpr ⟨ok_in hX (n := 2) (by decide +kernel) (by decide) (by decide), List.forall_mem_cons.mpr ⟨ok_go hX (off := 26) (by decide +kernel) (by decide), List.forall_mem_cons.mpr ⟨ok_iln hX (k := 3) (by decide +kernel) rfl, List.forall_mem_cons.mpr ⟨ok_si hX (n := (-32768)) (by decide +kernel) (by decide), List.forall_mem_cons.mpr ⟨ok_clt hX (off := 16) (by decide +kernel) (by decide), List.forall_mem_cons.mpr ⟨ok_iln hX (k := 3) (by decide +kernel) rfl, List.forall_mem_cons.mpr ⟨ok_si hX (n := 32767) (by decide +kernel) (by decide), List.forall_mem_cons.mpr ⟨ok_cgt hX (off := 9) (by decide +kernel) (by decide), List.forall_mem_cons.mpr ⟨ok_in hX (n := 3) (by decide +kernel) (by decide) (by decide), List.forall_mem_cons.mpr ⟨ok_go hX (off := 6) (by decide +kernel) (by decide), List.forall_mem_cons.mpr ⟨ok_in hX (n := 5) (by decide +kernel) (by decide) (by decide), List.forall_mem_cons.mpr ⟨ok_in hX (n := 1) (by decide +kernel) (by decide) (by decide), List.forall_mem_cons.mpr ⟨ok_go hX (off := (-76)) (by decide +kernel) (by decide), List.forall_mem_cons.mpr ⟨ok_iln hX (k := 1) (by decide +kernel) rfl, List.forall_mem_cons.mpr ⟨ok_ri hX (by decide +kernel) rfl, fun _ h => absurd h List.not_mem_nil⟩⟩⟩⟩⟩⟩⟩⟩⟩⟩⟩⟩⟩⟩⟩⟩⟩⟩⟩⟩⟩⟩⟩⟩⟩⟩⟩⟩⟩⟩⟩⟩⟩⟩⟩⟩⟩⟩⟩⟩⟩⟩⟩⟩
theorem kX3_packedBytes (l : Launch) (hl : l.stackTraces = false) : am_Ct l yX3_packedBytes cX3_packedBytes 4 (some .int) rX3_packedBytes (am_M tX3_packedBytes 4) := am_met hl (by decide +kernel) ⟨rfl, rfl⟩ (fun _ _ _ _ _ _ _ _ _ _ _ hX => hX3_packedBytes hl hX)
noncomputable def vX3_packedBytes (a0 : Int32) (g : am_S) : am_R := am_E tX3_packedBytes (0, [some (.inr (.inr (5, a0))), none, none, none], [], g)
noncomputable def vX3_packedBytes_4 (a0 : Int32) (a1 : Int32) (a2 : Int32) (a3 : Option am_v) (g : am_S) : am_R := am_E tX3_packedBytes (4, [some (.inr (.inr (5, a0))), some (.inl a1), some (.inl a2), a3], [], g)
noncomputable def vX3_packedBytes_36 (a0 : Int32) (a1 : Int32) (a2 : Int32) (a3 : Int32) (g : am_S) : am_R := am_E tX3_packedBytes (36, [some (.inr (.inr (5, a0))), some (.inl a1), some (.inl a2), some (.inl a3)], [], g)
noncomputable def vX3_packedBytes_54 (a0 : Int32) (a1 : Int32) (a2 : Int32) (a3 : Int32) (g : am_S) : am_R := am_E tX3_packedBytes (54, [some (.inr (.inr (5, a0))), some (.inl a1), some (.inl a2), some (.inl a3)], [], g)
theorem eX3_packedBytes (a0 : Int32) (g : am_S) : vX3_packedBytes a0 g = vX3_packedBytes_4 a0 0 0 none g := (am_E_blk lX3_packedBytes [4, 36, 54] 49 _).trans rfl
theorem eX3_packedBytes_4 (a0 : Int32) (a1 : Int32) (a2 : Int32) (a3 : Option am_v) (g : am_S) : vX3_packedBytes_4 a0 a1 a2 a3 g = if 8 ≤ a2 then (some (.inl (some (.inl a1)), g)) else am_g (am_in a0 128) (am_g (am_in a0 128) (am_g (am_in a2 8) (if a2 ≤ 0 then (vX3_packedBytes_36 a0 a1 a2 (g 6 a0.toNatClampNeg a2.toNatClampNeg) g) else am_g (am_in a0 128) (am_g (am_in a0 128) (am_g (am_in (a2 - 1) 8) (if (g 6 a0.toNatClampNeg a2.toNatClampNeg) = (g 6 a0.toNatClampNeg (a2 - 1).toNatClampNeg) then (vX3_packedBytes_4 a0 a1 (a2 + 1) (some (.inl (g 6 a0.toNatClampNeg a2.toNatClampNeg))) g) else vX3_packedBytes_36 a0 a1 a2 (g 6 a0.toNatClampNeg a2.toNatClampNeg) g)))))) := (am_E_blk lX3_packedBytes [4, 36, 54] 49 _).trans rfl
theorem eX3_packedBytes_36 (a0 : Int32) (a1 : Int32) (a2 : Int32) (a3 : Int32) (g : am_S) : vX3_packedBytes_36 a0 a1 a2 a3 g = if a3 < (-128) then (vX3_packedBytes_54 a0 a1 a2 a3 g) else if 127 < a3 then (vX3_packedBytes_54 a0 a1 a2 a3 g) else vX3_packedBytes_4 a0 (a1 + 2) (a2 + 1) (some (.inl a3)) g := (am_E_blk lX3_packedBytes [4, 36, 54] 49 _).trans rfl
theorem eX3_packedBytes_54 (a0 : Int32) (a1 : Int32) (a2 : Int32) (a3 : Int32) (g : am_S) : vX3_packedBytes_54 a0 a1 a2 a3 g = if a3 < (-32768) then (vX3_packedBytes_4 a0 (a1 + 5) (a2 + 1) (some (.inl a3)) g) else if 32767 < a3 then (vX3_packedBytes_4 a0 (a1 + 5) (a2 + 1) (some (.inl a3)) g) else vX3_packedBytes_4 a0 (a1 + 3) (a2 + 1) (some (.inl a3)) g := (am_E_blk lX3_packedBytes [4, 36, 54] 49 _).trans rfl
noncomputable def tX0_pack : List (Nat × am_I) := [(0, im_al 1 1), (1, im_vI 5 0 (am_M tX3_packedBytes 4)), (4, im_is 2 1), (5, im_il 2 1), (6, im_ic 16 2), (8, im_cgt 19), (11, im_al 0 1), (12, im_il 2 1), (13, im_vI 11 1 (am_M tX0_lowestRow 4)), (16, im_go 20), (19, im_ic (-1) 1), (20, im_is 3 1), (21, im_il 3 1), (22, im_ic (-1) 1), (23, im_cne 28), (26, im_ic 0 1), (27, im_rz), (28, im_il 3 1), (29, im_is 4 2), (31, im_il 4 2), (33, im_il 3 1), (34, im_il 2 1), (35, im_add), (36, im_cge 60), (39, im_il 4 2), (41, im_ic 64 2), (43, im_cge 60), (46, im_al 0 1), (47, im_gf 11 0 12), (50, im_il 4 2), (52, im_ic 1 1), (53, im_sb), (54, im_in 4 1), (57, im_go 31), (60, im_al 0 1), (61, im_du), (62, im_gi 11 2), (65, im_ic 1 1), (66, im_add), (67, im_pi 11 2), (70, im_al 1 1), (71, im_ic 2 1), (72, im_pi 5 2), (75, im_al 1 1), (76, im_il 3 1), (77, im_pi 5 3), (80, im_al 1 1), (81, im_il 2 1), (82, im_pi 5 4), (85, im_ic 1 1), (86, im_rz)]
theorem lX0_pack : am_linT tX0_pack := List.forall_mem_cons.mpr ⟨ln_al _ _, List.forall_mem_cons.mpr ⟨ln_vI _ _ _, List.forall_mem_cons.mpr ⟨ln_is _ _, List.forall_mem_cons.mpr ⟨ln_il _ _, List.forall_mem_cons.mpr ⟨ln_ic _ _, List.forall_mem_cons.mpr ⟨ln_cgt _, List.forall_mem_cons.mpr ⟨ln_al _ _, List.forall_mem_cons.mpr ⟨ln_il _ _, List.forall_mem_cons.mpr ⟨ln_vI _ _ _, List.forall_mem_cons.mpr ⟨ln_go _, List.forall_mem_cons.mpr ⟨ln_ic _ _, List.forall_mem_cons.mpr ⟨ln_is _ _, List.forall_mem_cons.mpr ⟨ln_il _ _, List.forall_mem_cons.mpr ⟨ln_ic _ _, List.forall_mem_cons.mpr ⟨ln_cne _, List.forall_mem_cons.mpr ⟨ln_ic _ _, List.forall_mem_cons.mpr ⟨ln_rz, List.forall_mem_cons.mpr ⟨ln_il _ _, List.forall_mem_cons.mpr ⟨ln_is _ _, List.forall_mem_cons.mpr ⟨ln_il _ _, List.forall_mem_cons.mpr ⟨ln_il _ _, List.forall_mem_cons.mpr ⟨ln_il _ _, List.forall_mem_cons.mpr ⟨ln_add, List.forall_mem_cons.mpr ⟨ln_cge _, List.forall_mem_cons.mpr ⟨ln_il _ _, List.forall_mem_cons.mpr ⟨ln_ic _ _, List.forall_mem_cons.mpr ⟨ln_cge _, List.forall_mem_cons.mpr ⟨ln_al _ _, List.forall_mem_cons.mpr ⟨ln_gf 11 0 12, List.forall_mem_cons.mpr ⟨ln_il _ _, List.forall_mem_cons.mpr ⟨ln_ic _ _, List.forall_mem_cons.mpr ⟨ln_sb, List.forall_mem_cons.mpr ⟨ln_in _ _, List.forall_mem_cons.mpr ⟨ln_go _, List.forall_mem_cons.mpr ⟨ln_al _ _, List.forall_mem_cons.mpr ⟨ln_du, List.forall_mem_cons.mpr ⟨ln_gi _ _, List.forall_mem_cons.mpr ⟨ln_ic _ _, List.forall_mem_cons.mpr ⟨ln_add, List.forall_mem_cons.mpr ⟨ln_pi _ _, List.forall_mem_cons.mpr ⟨ln_al _ _, List.forall_mem_cons.mpr ⟨ln_ic _ _, List.forall_mem_cons.mpr ⟨ln_pi _ _, List.forall_mem_cons.mpr ⟨ln_al _ _, List.forall_mem_cons.mpr ⟨ln_il _ _, List.forall_mem_cons.mpr ⟨ln_pi _ _, List.forall_mem_cons.mpr ⟨ln_al _ _, List.forall_mem_cons.mpr ⟨ln_il _ _, List.forall_mem_cons.mpr ⟨ln_pi _ _, List.forall_mem_cons.mpr ⟨ln_ic _ _, List.forall_mem_cons.mpr ⟨ln_rz, fun _ h => absurd h List.not_mem_nil⟩⟩⟩⟩⟩⟩⟩⟩⟩⟩⟩⟩⟩⟩⟩⟩⟩⟩⟩⟩⟩⟩⟩⟩⟩⟩⟩⟩⟩⟩⟩⟩⟩⟩⟩⟩⟩⟩⟩⟩⟩⟩⟩⟩⟩⟩⟩⟩⟩⟩⟩
def rX0_pack : Room := { frames := 1, cells := 1, slots := 6, locals := 23 }
set_option maxRecDepth 100000 in
theorem hX0_pack {p : Program} {l : Launch} {e : Env} {s : State} {m : MethodId} {args : Array Value} {below : List Frame} {meth : Method} {c : Code} {D : va_G} {cy : Nat → ClassId} {o : Nat} (hl : l.stackTraces = false) (hX : am_X p l rX0_pack s m args meth c D cy o cX0_pack 5 yX0_pack.cls (some .boolean)) : ∀ q ∈ tX0_pack, am_OK p l e rX0_pack s m args below meth c D cy o 5 q.1 q.2 := List.forall_mem_cons.mpr ⟨ok_aln hX (k := 1) (by decide +kernel) rfl, List.forall_mem_cons.mpr ⟨ok_vI hX (idx := 23) (f := 5) ⟨kX3_packedBytes l hl, tw_646, tw_649, tw_62, by decide +kernel, by decide +kernel, by decide⟩ (by decide +kernel) tw_647 tw_648 (by decide) rfl rfl, List.forall_mem_cons.mpr ⟨ok_isn hX (k := 2) (by decide +kernel) rfl (by decide), List.forall_mem_cons.mpr ⟨ok_iln hX (k := 2) (by decide +kernel) rfl, List.forall_mem_cons.mpr ⟨ok_bi hX (n := 16) (by decide +kernel) (by decide), List.forall_mem_cons.mpr ⟨ok_cgt hX (off := 11) (by decide +kernel) (by decide), List.forall_mem_cons.mpr ⟨ok_aln hX (k := 0) (by decide +kernel) rfl, List.forall_mem_cons.mpr ⟨ok_iln hX (k := 2) (by decide +kernel) rfl, List.forall_mem_cons.mpr ⟨ok_vI hX (idx := 29) (f := 11) ⟨kX0_lowestRow l hl, tw_650, tw_653, tw_64, by decide +kernel, by decide +kernel, by decide⟩ (by decide +kernel) tw_651 tw_652 (by decide) rfl rfl, List.forall_mem_cons.mpr ⟨ok_go hX (off := 4) (by decide +kernel) (by decide), List.forall_mem_cons.mpr ⟨ok_ic hX (n := (-1)) (by decide +kernel) (by decide), List.forall_mem_cons.mpr ⟨ok_isn hX (k := 3) (by decide +kernel) rfl (by decide), List.forall_mem_cons.mpr ⟨ok_iln hX (k := 3) (by decide +kernel) rfl, List.forall_mem_cons.mpr ⟨ok_ic hX (n := (-1)) (by decide +kernel) (by decide), List.forall_mem_cons.mpr ⟨ok_cne hX (off := 5) (by decide +kernel) (by decide), List.forall_mem_cons.mpr ⟨ok_ic hX (n := 0) (by decide +kernel) (by decide), List.forall_mem_cons.mpr ⟨ok_rz hX (by decide +kernel) rfl, List.forall_mem_cons.mpr ⟨ok_iln hX (k := 3) (by decide +kernel) rfl, List.forall_mem_cons.mpr ⟨ok_is hX (by decide +kernel) (by decide), List.forall_mem_cons.mpr ⟨ok_il hX (by decide +kernel), List.forall_mem_cons.mpr ⟨ok_iln hX (k := 3) (by decide +kernel) rfl, List.forall_mem_cons.mpr ⟨ok_iln hX (k := 2) (by decide +kernel) rfl, List.forall_mem_cons.mpr ⟨ok_add hX (by decide +kernel), List.forall_mem_cons.mpr ⟨ok_cge hX (off := 24) (by decide +kernel) (by decide), List.forall_mem_cons.mpr ⟨ok_il hX (by decide +kernel), List.forall_mem_cons.mpr ⟨ok_bi hX (n := 64) (by decide +kernel) (by decide), List.forall_mem_cons.mpr ⟨ok_cge hX (off := 17) (by decide +kernel) (by decide), List.forall_mem_cons.mpr ⟨ok_aln hX (k := 0) (by decide +kernel) rfl, List.forall_mem_cons.mpr ⟨ok_gf hX (f := 11) (j := 0) (idx := 9) (C := RX0) (T := TX0) (N := 3) (by decide) rfl rfl rfl (by decide) iw0 tw_183 rfl rfl rfl (by decide +kernel), List.forall_mem_cons.mpr ⟨ok_il hX (by decide +kernel), List.forall_mem_cons.mpr ⟨ok_ic hX (n := 1) (by decide +kernel) (by decide), List.forall_mem_cons.mpr ⟨ok_bst hX (by decide +kernel), List.forall_mem_cons.mpr ⟨ok_in hX (n := 1) (by decide +kernel) (by decide) (by decide), List.forall_mem_cons.mpr ⟨ok_go hX (off := (-26)) (by decide +kernel) (by decide), List.forall_mem_cons.mpr ⟨ok_aln hX (k := 0) (by decide +kernel) rfl, List.forall_mem_cons.mpr ⟨ok_du hX (by decide +kernel), List.forall_mem_cons.mpr ⟨ok_gi hX (f := 11) (j := 2) (idx := 19) (C := RX0) (T := TX0) (N := 3) (by decide) rfl rfl rfl (by decide) iw0 tw_185 rfl rfl (by decide +kernel), List.forall_mem_cons.mpr ⟨ok_ic hX (n := 1) (by decide +kernel) (by decide), List.forall_mem_cons.mpr ⟨ok_add hX (by decide +kernel), List.forall_mem_cons.mpr ⟨ok_pi hX (f := 11) (j := 2) (idx := 19) (C := RX0) (T := TX0) (N := 3) (by decide) rfl rfl rfl (by decide) iw0 tw_185 rfl tyX0 tyX0_ok nmX0 rfl rfl rfl (by decide +kernel), List.forall_mem_cons.mpr ⟨ok_aln hX (k := 1) (by decide +kernel) rfl, List.forall_mem_cons.mpr ⟨ok_ic hX (n := 2) (by decide +kernel) (by decide), List.forall_mem_cons.mpr ⟨ok_pi hX (f := 5) (j := 2) (idx := 33) (C := RX3) (T := TX3) (N := 8) (by decide) rfl rfl rfl (by decide) iw3 tw_104 rfl tyX3 tyX3_ok nmX3 rfl rfl rfl (by decide +kernel), List.forall_mem_cons.mpr ⟨ok_aln hX (k := 1) (by decide +kernel) rfl, List.forall_mem_cons.mpr ⟨ok_iln hX (k := 3) (by decide +kernel) rfl, List.forall_mem_cons.mpr ⟨ok_pi hX (f := 5) (j := 3) (idx := 36) (C := RX3) (T := TX3) (N := 8) (by decide) rfl rfl rfl (by decide) iw3 tw_109 rfl tyX3 tyX3_ok nmX3 rfl rfl rfl (by decide +kernel), List.forall_mem_cons.mpr ⟨ok_aln hX (k := 1) (by decide +kernel) rfl, List.forall_mem_cons.mpr ⟨ok_iln hX (k := 2) (by decide +kernel) rfl, List.forall_mem_cons.mpr ⟨ok_pi hX (f := 5) (j := 4) (idx := 39) (C := RX3) (T := TX3) (N := 8) (by decide) rfl rfl rfl (by decide) iw3 tw_113 rfl tyX3 tyX3_ok nmX3 rfl rfl rfl (by decide +kernel), List.forall_mem_cons.mpr ⟨ok_ic hX (n := 1) (by decide +kernel) (by decide), List.forall_mem_cons.mpr ⟨ok_rz hX (by decide +kernel) rfl, fun _ h => absurd h List.not_mem_nil⟩⟩⟩⟩⟩⟩⟩⟩⟩⟩⟩⟩⟩⟩⟩⟩⟩⟩⟩⟩⟩⟩⟩⟩⟩⟩⟩⟩⟩⟩⟩⟩⟩⟩⟩⟩⟩⟩⟩⟩⟩⟩⟩⟩⟩⟩⟩⟩⟩⟩⟩
theorem kX0_pack (l : Launch) (hl : l.stackTraces = false) : am_Ct l yX0_pack cX0_pack 5 (some .boolean) rX0_pack (am_M tX0_pack 5) := am_met hl (by decide +kernel) ⟨rfl, rfl⟩ (fun _ _ _ _ _ _ _ _ _ _ _ hX => hX0_pack hl hX)
noncomputable def vX0_pack (a1 : Int32) (g : am_S) : am_R := am_E tX0_pack (0, [some (.inr (.inr (11, 0))), some (.inr (.inr (5, a1))), none, none, none], [], g)
noncomputable def vX0_pack_20 (a1 : Int32) (a2 : Int32) (s0 : Int32) (g : am_S) : am_R := am_E tX0_pack (20, [some (.inr (.inr (11, 0))), some (.inr (.inr (5, a1))), some (.inl a2), none, none], [.inl s0], g)
noncomputable def vX0_pack_31 (a1 : Int32) (a2 : Int32) (a3 : Int32) (a4 : Int32) (g : am_S) : am_R := am_E tX0_pack (31, [some (.inr (.inr (11, 0))), some (.inr (.inr (5, a1))), some (.inl a2), some (.inl a3), some (.inl a4)], [], g)
noncomputable def vX0_pack_60 (a1 : Int32) (a2 : Int32) (a3 : Int32) (a4 : Int32) (g : am_S) : am_R := am_E tX0_pack (60, [some (.inr (.inr (11, 0))), some (.inr (.inr (5, a1))), some (.inl a2), some (.inl a3), some (.inl a4)], [], g)
theorem eX0_pack (a1 : Int32) (g : am_S) : vX0_pack a1 g = am_g (am_in a1 128) (am_bI (vX3_packedBytes a1 g) (fun r2 g1 => if 16 < r2 then (vX0_pack_20 a1 r2 (-1) g1) else am_bI (vX0_lowestRow r2 g1) (fun r4 g3 => vX0_pack_20 a1 r2 r4 g3))) := (am_E_blk lX0_pack [20, 31, 60] 56 _).trans rfl
theorem eX0_pack_20 (a1 : Int32) (a2 : Int32) (s0 : Int32) (g : am_S) : vX0_pack_20 a1 a2 s0 g = if s0 = (-1) then (am_g (am_b 0) (some (.inl (some (.inl 0)), g))) else vX0_pack_31 a1 a2 s0 s0 g := (am_E_blk lX0_pack [20, 31, 60] 56 _).trans rfl
theorem eX0_pack_31 (a1 : Int32) (a2 : Int32) (a3 : Int32) (a4 : Int32) (g : am_S) : vX0_pack_31 a1 a2 a3 a4 g = if (a3 + a2) ≤ a4 then (vX0_pack_60 a1 a2 a3 a4 g) else if 64 ≤ a4 then (vX0_pack_60 a1 a2 a3 a4 g) else am_g (am_in a4 64) (am_g (am_b 1) (vX0_pack_31 a1 a2 a3 (a4 + 1) (am_up g 12 0 a4.toNatClampNeg 1))) := (am_E_blk lX0_pack [20, 31, 60] 56 _).trans rfl
theorem eX0_pack_60 (a1 : Int32) (a2 : Int32) (a3 : Int32) (a4 : Int32) (g : am_S) : vX0_pack_60 a1 a2 a3 a4 g = am_g (am_in a1 128) (am_g (am_in a1 128) (am_g (am_in a1 128) (am_g (am_b 1) (some (.inl (some (.inl 1)), (am_up (am_up (am_up (am_up g 11 0 2 ((g 11 0 2) + 1)) 5 a1.toNatClampNeg 2 2) 5 a1.toNatClampNeg 3 a3) 5 a1.toNatClampNeg 4 a2)))))) := (am_E_blk lX0_pack [20, 31, 60] 56 _).trans rfl
noncomputable def tX0_unpack : List (Nat × am_I) := [(0, im_al 1 1), (1, im_gi 5 3), (4, im_is 2 1), (5, im_il 2 1), (6, im_flt 41), (9, im_il 2 1), (10, im_al 1 1), (11, im_gi 5 3), (14, im_al 1 1), (15, im_gi 5 4), (18, im_add), (19, im_cge 41), (22, im_il 2 1), (23, im_ic 64 2), (25, im_cge 41), (28, im_al 0 1), (29, im_gf 11 0 12), (32, im_il 2 1), (33, im_ic 0 1), (34, im_sb), (35, im_in 2 1), (38, im_go 5), (41, im_al 0 1), (42, im_du), (43, im_gi 11 2), (46, im_ic 1 1), (47, im_sub), (48, im_pi 11 2), (51, im_al 1 1), (52, im_ic 0 1), (53, im_pi 5 4), (56, im_rv)]
theorem lX0_unpack : am_linT tX0_unpack := List.forall_mem_cons.mpr ⟨ln_al _ _, List.forall_mem_cons.mpr ⟨ln_gi _ _, List.forall_mem_cons.mpr ⟨ln_is _ _, List.forall_mem_cons.mpr ⟨ln_il _ _, List.forall_mem_cons.mpr ⟨ln_flt _, List.forall_mem_cons.mpr ⟨ln_il _ _, List.forall_mem_cons.mpr ⟨ln_al _ _, List.forall_mem_cons.mpr ⟨ln_gi _ _, List.forall_mem_cons.mpr ⟨ln_al _ _, List.forall_mem_cons.mpr ⟨ln_gi _ _, List.forall_mem_cons.mpr ⟨ln_add, List.forall_mem_cons.mpr ⟨ln_cge _, List.forall_mem_cons.mpr ⟨ln_il _ _, List.forall_mem_cons.mpr ⟨ln_ic _ _, List.forall_mem_cons.mpr ⟨ln_cge _, List.forall_mem_cons.mpr ⟨ln_al _ _, List.forall_mem_cons.mpr ⟨ln_gf 11 0 12, List.forall_mem_cons.mpr ⟨ln_il _ _, List.forall_mem_cons.mpr ⟨ln_ic _ _, List.forall_mem_cons.mpr ⟨ln_sb, List.forall_mem_cons.mpr ⟨ln_in _ _, List.forall_mem_cons.mpr ⟨ln_go _, List.forall_mem_cons.mpr ⟨ln_al _ _, List.forall_mem_cons.mpr ⟨ln_du, List.forall_mem_cons.mpr ⟨ln_gi _ _, List.forall_mem_cons.mpr ⟨ln_ic _ _, List.forall_mem_cons.mpr ⟨ln_sub, List.forall_mem_cons.mpr ⟨ln_pi _ _, List.forall_mem_cons.mpr ⟨ln_al _ _, List.forall_mem_cons.mpr ⟨ln_ic _ _, List.forall_mem_cons.mpr ⟨ln_pi _ _, List.forall_mem_cons.mpr ⟨ln_rv, fun _ h => absurd h List.not_mem_nil⟩⟩⟩⟩⟩⟩⟩⟩⟩⟩⟩⟩⟩⟩⟩⟩⟩⟩⟩⟩⟩⟩⟩⟩⟩⟩⟩⟩⟩⟩⟩⟩
def rX0_unpack : Room := { frames := 0, cells := 1, slots := 6, locals := 0 }
set_option maxRecDepth 100000 in
theorem hX0_unpack {p : Program} {l : Launch} {e : Env} {s : State} {m : MethodId} {args : Array Value} {below : List Frame} {meth : Method} {c : Code} {D : va_G} {cy : Nat → ClassId} {o : Nat} (hl : l.stackTraces = false) (hX : am_X p l rX0_unpack s m args meth c D cy o cX0_unpack 3 yX0_unpack.cls none) : ∀ q ∈ tX0_unpack, am_OK p l e rX0_unpack s m args below meth c D cy o 3 q.1 q.2 := List.forall_mem_cons.mpr ⟨ok_aln hX (k := 1) (by decide +kernel) rfl, List.forall_mem_cons.mpr ⟨ok_gi hX (f := 5) (j := 3) (idx := 36) (C := RX3) (T := TX3) (N := 8) (by decide) rfl rfl rfl (by decide) iw3 tw_109 rfl rfl (by decide +kernel), List.forall_mem_cons.mpr ⟨ok_isn hX (k := 2) (by decide +kernel) rfl (by decide), List.forall_mem_cons.mpr ⟨ok_iln hX (k := 2) (by decide +kernel) rfl, List.forall_mem_cons.mpr ⟨ok_flt hX (off := 35) (by decide +kernel) (by decide), List.forall_mem_cons.mpr ⟨ok_iln hX (k := 2) (by decide +kernel) rfl, List.forall_mem_cons.mpr ⟨ok_aln hX (k := 1) (by decide +kernel) rfl, List.forall_mem_cons.mpr ⟨ok_gi hX (f := 5) (j := 3) (idx := 36) (C := RX3) (T := TX3) (N := 8) (by decide) rfl rfl rfl (by decide) iw3 tw_109 rfl rfl (by decide +kernel), List.forall_mem_cons.mpr ⟨ok_aln hX (k := 1) (by decide +kernel) rfl, List.forall_mem_cons.mpr ⟨ok_gi hX (f := 5) (j := 4) (idx := 39) (C := RX3) (T := TX3) (N := 8) (by decide) rfl rfl rfl (by decide) iw3 tw_113 rfl rfl (by decide +kernel), List.forall_mem_cons.mpr ⟨ok_add hX (by decide +kernel), List.forall_mem_cons.mpr ⟨ok_cge hX (off := 22) (by decide +kernel) (by decide), List.forall_mem_cons.mpr ⟨ok_iln hX (k := 2) (by decide +kernel) rfl, List.forall_mem_cons.mpr ⟨ok_bi hX (n := 64) (by decide +kernel) (by decide), List.forall_mem_cons.mpr ⟨ok_cge hX (off := 16) (by decide +kernel) (by decide), List.forall_mem_cons.mpr ⟨ok_aln hX (k := 0) (by decide +kernel) rfl, List.forall_mem_cons.mpr ⟨ok_gf hX (f := 11) (j := 0) (idx := 9) (C := RX0) (T := TX0) (N := 3) (by decide) rfl rfl rfl (by decide) iw0 tw_183 rfl rfl rfl (by decide +kernel), List.forall_mem_cons.mpr ⟨ok_iln hX (k := 2) (by decide +kernel) rfl, List.forall_mem_cons.mpr ⟨ok_ic hX (n := 0) (by decide +kernel) (by decide), List.forall_mem_cons.mpr ⟨ok_bst hX (by decide +kernel), List.forall_mem_cons.mpr ⟨ok_in hX (n := 1) (by decide +kernel) (by decide) (by decide), List.forall_mem_cons.mpr ⟨ok_go hX (off := (-33)) (by decide +kernel) (by decide), List.forall_mem_cons.mpr ⟨ok_aln hX (k := 0) (by decide +kernel) rfl, List.forall_mem_cons.mpr ⟨ok_du hX (by decide +kernel), List.forall_mem_cons.mpr ⟨ok_gi hX (f := 11) (j := 2) (idx := 19) (C := RX0) (T := TX0) (N := 3) (by decide) rfl rfl rfl (by decide) iw0 tw_185 rfl rfl (by decide +kernel), List.forall_mem_cons.mpr ⟨ok_ic hX (n := 1) (by decide +kernel) (by decide), List.forall_mem_cons.mpr ⟨ok_sub hX (by decide +kernel), List.forall_mem_cons.mpr ⟨ok_pi hX (f := 11) (j := 2) (idx := 19) (C := RX0) (T := TX0) (N := 3) (by decide) rfl rfl rfl (by decide) iw0 tw_185 rfl tyX0 tyX0_ok nmX0 rfl rfl rfl (by decide +kernel), List.forall_mem_cons.mpr ⟨ok_aln hX (k := 1) (by decide +kernel) rfl, List.forall_mem_cons.mpr ⟨ok_ic hX (n := 0) (by decide +kernel) (by decide), List.forall_mem_cons.mpr ⟨ok_pi hX (f := 5) (j := 4) (idx := 39) (C := RX3) (T := TX3) (N := 8) (by decide) rfl rfl rfl (by decide) iw3 tw_113 rfl tyX3 tyX3_ok nmX3 rfl rfl rfl (by decide +kernel), List.forall_mem_cons.mpr ⟨ok_rv hX (by decide +kernel) rfl, fun _ h => absurd h List.not_mem_nil⟩⟩⟩⟩⟩⟩⟩⟩⟩⟩⟩⟩⟩⟩⟩⟩⟩⟩⟩⟩⟩⟩⟩⟩⟩⟩⟩⟩⟩⟩⟩⟩
theorem kX0_unpack (l : Launch) (hl : l.stackTraces = false) : am_Ct l yX0_unpack cX0_unpack 3 none rX0_unpack (am_M tX0_unpack 3) := am_met hl (by decide +kernel) ⟨rfl, rfl⟩ (fun _ _ _ _ _ _ _ _ _ _ _ hX => hX0_unpack hl hX)
noncomputable def vX0_unpack (a1 : Int32) (g : am_S) : am_R := am_E tX0_unpack (0, [some (.inr (.inr (11, 0))), some (.inr (.inr (5, a1))), none], [], g)
noncomputable def vX0_unpack_5 (a1 : Int32) (a2 : Int32) (g : am_S) : am_R := am_E tX0_unpack (5, [some (.inr (.inr (11, 0))), some (.inr (.inr (5, a1))), some (.inl a2)], [], g)
noncomputable def vX0_unpack_41 (a1 : Int32) (a2 : Int32) (g : am_S) : am_R := am_E tX0_unpack (41, [some (.inr (.inr (11, 0))), some (.inr (.inr (5, a1))), some (.inl a2)], [], g)
theorem eX0_unpack (a1 : Int32) (g : am_S) : vX0_unpack a1 g = am_g (am_in a1 128) (vX0_unpack_5 a1 (g 5 a1.toNatClampNeg 3) g) := (am_E_blk lX0_unpack [5, 41] 37 _).trans rfl
theorem eX0_unpack_5 (a1 : Int32) (a2 : Int32) (g : am_S) : vX0_unpack_5 a1 a2 g = if a2 < 0 then (vX0_unpack_41 a1 a2 g) else am_g (am_in a1 128) (am_g (am_in a1 128) (if ((g 5 a1.toNatClampNeg 3) + (g 5 a1.toNatClampNeg 4)) ≤ a2 then (vX0_unpack_41 a1 a2 g) else if 64 ≤ a2 then (vX0_unpack_41 a1 a2 g) else am_g (am_in a2 64) (am_g (am_b 0) (vX0_unpack_5 a1 (a2 + 1) (am_up g 12 0 a2.toNatClampNeg 0))))) := (am_E_blk lX0_unpack [5, 41] 37 _).trans rfl
theorem eX0_unpack_41 (a1 : Int32) (a2 : Int32) (g : am_S) : vX0_unpack_41 a1 a2 g = am_g (am_in a1 128) (some (.inl none, (am_up (am_up g 11 0 2 ((g 11 0 2) - 1)) 5 a1.toNatClampNeg 4 0))) := (am_E_blk lX0_unpack [5, 41] 37 _).trans rfl
noncomputable def tX0_longestRow : List (Nat × am_I) := [(0, im_ic 0 1), (1, im_is 1 1), (2, im_ic 0 1), (3, im_is 2 1), (4, im_ic 0 1), (5, im_is 3 1), (6, im_il 3 1), (7, im_ic 64 2), (9, im_cge 46), (12, im_al 0 1), (13, im_gf 11 0 12), (16, im_il 3 1), (17, im_ba), (18, im_feq 25), (21, im_ic 0 1), (22, im_go 28), (25, im_il 1 1), (26, im_ic 1 1), (27, im_add), (28, im_is 1 1), (29, im_il 1 1), (30, im_il 2 1), (31, im_cle 38), (34, im_il 1 1), (35, im_go 39), (38, im_il 2 1), (39, im_is 2 1), (40, im_in 3 1), (43, im_go 6), (46, im_il 2 1), (47, im_ri)]
theorem lX0_longestRow : am_linT tX0_longestRow := List.forall_mem_cons.mpr ⟨ln_ic _ _, List.forall_mem_cons.mpr ⟨ln_is _ _, List.forall_mem_cons.mpr ⟨ln_ic _ _, List.forall_mem_cons.mpr ⟨ln_is _ _, List.forall_mem_cons.mpr ⟨ln_ic _ _, List.forall_mem_cons.mpr ⟨ln_is _ _, List.forall_mem_cons.mpr ⟨ln_il _ _, List.forall_mem_cons.mpr ⟨ln_ic _ _, List.forall_mem_cons.mpr ⟨ln_cge _, List.forall_mem_cons.mpr ⟨ln_al _ _, List.forall_mem_cons.mpr ⟨ln_gf 11 0 12, List.forall_mem_cons.mpr ⟨ln_il _ _, List.forall_mem_cons.mpr ⟨ln_ba, List.forall_mem_cons.mpr ⟨ln_feq _, List.forall_mem_cons.mpr ⟨ln_ic _ _, List.forall_mem_cons.mpr ⟨ln_go _, List.forall_mem_cons.mpr ⟨ln_il _ _, List.forall_mem_cons.mpr ⟨ln_ic _ _, List.forall_mem_cons.mpr ⟨ln_add, List.forall_mem_cons.mpr ⟨ln_is _ _, List.forall_mem_cons.mpr ⟨ln_il _ _, List.forall_mem_cons.mpr ⟨ln_il _ _, List.forall_mem_cons.mpr ⟨ln_cle _, List.forall_mem_cons.mpr ⟨ln_il _ _, List.forall_mem_cons.mpr ⟨ln_go _, List.forall_mem_cons.mpr ⟨ln_il _ _, List.forall_mem_cons.mpr ⟨ln_is _ _, List.forall_mem_cons.mpr ⟨ln_in _ _, List.forall_mem_cons.mpr ⟨ln_go _, List.forall_mem_cons.mpr ⟨ln_il _ _, List.forall_mem_cons.mpr ⟨ln_ri, fun _ h => absurd h List.not_mem_nil⟩⟩⟩⟩⟩⟩⟩⟩⟩⟩⟩⟩⟩⟩⟩⟩⟩⟩⟩⟩⟩⟩⟩⟩⟩⟩⟩⟩⟩⟩⟩
def rX0_longestRow : Room := { frames := 0, cells := 1, slots := 6, locals := 0 }
set_option maxRecDepth 100000 in
theorem hX0_longestRow {p : Program} {l : Launch} {e : Env} {s : State} {m : MethodId} {args : Array Value} {below : List Frame} {meth : Method} {c : Code} {D : va_G} {cy : Nat → ClassId} {o : Nat} (hl : l.stackTraces = false) (hX : am_X p l rX0_longestRow s m args meth c D cy o cX0_longestRow 4 yX0_longestRow.cls (some .int)) : ∀ q ∈ tX0_longestRow, am_OK p l e rX0_longestRow s m args below meth c D cy o 4 q.1 q.2 := List.forall_mem_cons.mpr ⟨ok_ic hX (n := 0) (by decide +kernel) (by decide), List.forall_mem_cons.mpr ⟨ok_isn hX (k := 1) (by decide +kernel) rfl (by decide), List.forall_mem_cons.mpr ⟨ok_ic hX (n := 0) (by decide +kernel) (by decide), List.forall_mem_cons.mpr ⟨ok_isn hX (k := 2) (by decide +kernel) rfl (by decide), List.forall_mem_cons.mpr ⟨ok_ic hX (n := 0) (by decide +kernel) (by decide), List.forall_mem_cons.mpr ⟨ok_isn hX (k := 3) (by decide +kernel) rfl (by decide), List.forall_mem_cons.mpr ⟨ok_iln hX (k := 3) (by decide +kernel) rfl, List.forall_mem_cons.mpr ⟨ok_bi hX (n := 64) (by decide +kernel) (by decide), List.forall_mem_cons.mpr ⟨ok_cge hX (off := 37) (by decide +kernel) (by decide), List.forall_mem_cons.mpr ⟨ok_aln hX (k := 0) (by decide +kernel) rfl, List.forall_mem_cons.mpr ⟨ok_gf hX (f := 11) (j := 0) (idx := 9) (C := RX0) (T := TX0) (N := 3) (by decide) rfl rfl rfl (by decide) iw0 tw_183 rfl rfl rfl (by decide +kernel), List.forall_mem_cons.mpr ⟨ok_iln hX (k := 3) (by decide +kernel) rfl, List.forall_mem_cons.mpr ⟨ok_ba hX (by decide +kernel), List.forall_mem_cons.mpr ⟨ok_feq hX (off := 7) (by decide +kernel) (by decide), List.forall_mem_cons.mpr ⟨ok_ic hX (n := 0) (by decide +kernel) (by decide), List.forall_mem_cons.mpr ⟨ok_go hX (off := 6) (by decide +kernel) (by decide), List.forall_mem_cons.mpr ⟨ok_iln hX (k := 1) (by decide +kernel) rfl, List.forall_mem_cons.mpr ⟨ok_ic hX (n := 1) (by decide +kernel) (by decide), List.forall_mem_cons.mpr ⟨ok_add hX (by decide +kernel), List.forall_mem_cons.mpr ⟨ok_isn hX (k := 1) (by decide +kernel) rfl (by decide), List.forall_mem_cons.mpr ⟨ok_iln hX (k := 1) (by decide +kernel) rfl, List.forall_mem_cons.mpr ⟨ok_iln hX (k := 2) (by decide +kernel) rfl, List.forall_mem_cons.mpr ⟨ok_cle hX (off := 7) (by decide +kernel) (by decide), List.forall_mem_cons.mpr ⟨ok_iln hX (k := 1) (by decide +kernel) rfl, List.forall_mem_cons.mpr ⟨ok_go hX (off := 4) (by decide +kernel) (by decide), List.forall_mem_cons.mpr ⟨ok_iln hX (k := 2) (by decide +kernel) rfl, List.forall_mem_cons.mpr ⟨ok_isn hX (k := 2) (by decide +kernel) rfl (by decide), List.forall_mem_cons.mpr ⟨ok_in hX (n := 1) (by decide +kernel) (by decide) (by decide), List.forall_mem_cons.mpr ⟨ok_go hX (off := (-37)) (by decide +kernel) (by decide), List.forall_mem_cons.mpr ⟨ok_iln hX (k := 2) (by decide +kernel) rfl, List.forall_mem_cons.mpr ⟨ok_ri hX (by decide +kernel) rfl, fun _ h => absurd h List.not_mem_nil⟩⟩⟩⟩⟩⟩⟩⟩⟩⟩⟩⟩⟩⟩⟩⟩⟩⟩⟩⟩⟩⟩⟩⟩⟩⟩⟩⟩⟩⟩⟩
theorem kX0_longestRow (l : Launch) (hl : l.stackTraces = false) : am_Ct l yX0_longestRow cX0_longestRow 4 (some .int) rX0_longestRow (am_M tX0_longestRow 4) := am_met hl (by decide +kernel) ⟨rfl, rfl⟩ (fun _ _ _ _ _ _ _ _ _ _ _ hX => hX0_longestRow hl hX)
noncomputable def vX0_longestRow (g : am_S) : am_R := am_E tX0_longestRow (0, [some (.inr (.inr (11, 0))), none, none, none], [], g)
noncomputable def vX0_longestRow_6 (a1 : Int32) (a2 : Int32) (a3 : Int32) (g : am_S) : am_R := am_E tX0_longestRow (6, [some (.inr (.inr (11, 0))), some (.inl a1), some (.inl a2), some (.inl a3)], [], g)
noncomputable def vX0_longestRow_28 (a1 : Int32) (a2 : Int32) (a3 : Int32) (s0 : Int32) (g : am_S) : am_R := am_E tX0_longestRow (28, [some (.inr (.inr (11, 0))), some (.inl a1), some (.inl a2), some (.inl a3)], [.inl s0], g)
theorem eX0_longestRow (g : am_S) : vX0_longestRow g = vX0_longestRow_6 0 0 0 g := (am_E_blk lX0_longestRow [6, 28] 36 _).trans rfl
theorem eX0_longestRow_6 (a1 : Int32) (a2 : Int32) (a3 : Int32) (g : am_S) : vX0_longestRow_6 a1 a2 a3 g = if 64 ≤ a3 then (some (.inl (some (.inl a2)), g)) else am_g (am_in a3 64) (if (g 12 0 a3.toNatClampNeg) = 0 then (vX0_longestRow_28 a1 a2 a3 (a1 + 1) g) else vX0_longestRow_28 a1 a2 a3 0 g) := (am_E_blk lX0_longestRow [6, 28] 36 _).trans rfl
theorem eX0_longestRow_28 (a1 : Int32) (a2 : Int32) (a3 : Int32) (s0 : Int32) (g : am_S) : vX0_longestRow_28 a1 a2 a3 s0 g = if s0 ≤ a2 then (vX0_longestRow_6 s0 a2 (a3 + 1) g) else vX0_longestRow_6 s0 s0 (a3 + 1) g := (am_E_blk lX0_longestRow [6, 28] 36 _).trans rfl
noncomputable def tX0_takenBytes : List (Nat × am_I) := [(0, im_ic 0 1), (1, im_is 1 1), (2, im_ic 0 1), (3, im_is 2 1), (4, im_il 2 1), (5, im_ic 64 2), (7, im_cge 28), (10, im_al 0 1), (11, im_gf 11 0 12), (14, im_il 2 1), (15, im_ba), (16, im_feq 22), (19, im_in 1 1), (22, im_in 2 1), (25, im_go 4), (28, im_il 1 1), (29, im_ri)]
theorem lX0_takenBytes : am_linT tX0_takenBytes := List.forall_mem_cons.mpr ⟨ln_ic _ _, List.forall_mem_cons.mpr ⟨ln_is _ _, List.forall_mem_cons.mpr ⟨ln_ic _ _, List.forall_mem_cons.mpr ⟨ln_is _ _, List.forall_mem_cons.mpr ⟨ln_il _ _, List.forall_mem_cons.mpr ⟨ln_ic _ _, List.forall_mem_cons.mpr ⟨ln_cge _, List.forall_mem_cons.mpr ⟨ln_al _ _, List.forall_mem_cons.mpr ⟨ln_gf 11 0 12, List.forall_mem_cons.mpr ⟨ln_il _ _, List.forall_mem_cons.mpr ⟨ln_ba, List.forall_mem_cons.mpr ⟨ln_feq _, List.forall_mem_cons.mpr ⟨ln_in _ _, List.forall_mem_cons.mpr ⟨ln_in _ _, List.forall_mem_cons.mpr ⟨ln_go _, List.forall_mem_cons.mpr ⟨ln_il _ _, List.forall_mem_cons.mpr ⟨ln_ri, fun _ h => absurd h List.not_mem_nil⟩⟩⟩⟩⟩⟩⟩⟩⟩⟩⟩⟩⟩⟩⟩⟩⟩
def rX0_takenBytes : Room := { frames := 0, cells := 1, slots := 6, locals := 0 }
set_option maxRecDepth 100000 in
theorem hX0_takenBytes {p : Program} {l : Launch} {e : Env} {s : State} {m : MethodId} {args : Array Value} {below : List Frame} {meth : Method} {c : Code} {D : va_G} {cy : Nat → ClassId} {o : Nat} (hl : l.stackTraces = false) (hX : am_X p l rX0_takenBytes s m args meth c D cy o cX0_takenBytes 3 yX0_takenBytes.cls (some .int)) : ∀ q ∈ tX0_takenBytes, am_OK p l e rX0_takenBytes s m args below meth c D cy o 3 q.1 q.2 := List.forall_mem_cons.mpr ⟨ok_ic hX (n := 0) (by decide +kernel) (by decide), List.forall_mem_cons.mpr ⟨ok_isn hX (k := 1) (by decide +kernel) rfl (by decide), List.forall_mem_cons.mpr ⟨ok_ic hX (n := 0) (by decide +kernel) (by decide), List.forall_mem_cons.mpr ⟨ok_isn hX (k := 2) (by decide +kernel) rfl (by decide), List.forall_mem_cons.mpr ⟨ok_iln hX (k := 2) (by decide +kernel) rfl, List.forall_mem_cons.mpr ⟨ok_bi hX (n := 64) (by decide +kernel) (by decide), List.forall_mem_cons.mpr ⟨ok_cge hX (off := 21) (by decide +kernel) (by decide), List.forall_mem_cons.mpr ⟨ok_aln hX (k := 0) (by decide +kernel) rfl, List.forall_mem_cons.mpr ⟨ok_gf hX (f := 11) (j := 0) (idx := 9) (C := RX0) (T := TX0) (N := 3) (by decide) rfl rfl rfl (by decide) iw0 tw_183 rfl rfl rfl (by decide +kernel), List.forall_mem_cons.mpr ⟨ok_iln hX (k := 2) (by decide +kernel) rfl, List.forall_mem_cons.mpr ⟨ok_ba hX (by decide +kernel), List.forall_mem_cons.mpr ⟨ok_feq hX (off := 6) (by decide +kernel) (by decide), List.forall_mem_cons.mpr ⟨ok_in hX (n := 1) (by decide +kernel) (by decide) (by decide), List.forall_mem_cons.mpr ⟨ok_in hX (n := 1) (by decide +kernel) (by decide) (by decide), List.forall_mem_cons.mpr ⟨ok_go hX (off := (-21)) (by decide +kernel) (by decide), List.forall_mem_cons.mpr ⟨ok_iln hX (k := 1) (by decide +kernel) rfl, List.forall_mem_cons.mpr ⟨ok_ri hX (by decide +kernel) rfl, fun _ h => absurd h List.not_mem_nil⟩⟩⟩⟩⟩⟩⟩⟩⟩⟩⟩⟩⟩⟩⟩⟩⟩
theorem kX0_takenBytes (l : Launch) (hl : l.stackTraces = false) : am_Ct l yX0_takenBytes cX0_takenBytes 3 (some .int) rX0_takenBytes (am_M tX0_takenBytes 3) := am_met hl (by decide +kernel) ⟨rfl, rfl⟩ (fun _ _ _ _ _ _ _ _ _ _ _ hX => hX0_takenBytes hl hX)
noncomputable def vX0_takenBytes (g : am_S) : am_R := am_E tX0_takenBytes (0, [some (.inr (.inr (11, 0))), none, none], [], g)
noncomputable def vX0_takenBytes_4 (a1 : Int32) (a2 : Int32) (g : am_S) : am_R := am_E tX0_takenBytes (4, [some (.inr (.inr (11, 0))), some (.inl a1), some (.inl a2)], [], g)
theorem eX0_takenBytes (g : am_S) : vX0_takenBytes g = vX0_takenBytes_4 0 0 g := (am_E_blk lX0_takenBytes [4] 22 _).trans rfl
theorem eX0_takenBytes_4 (a1 : Int32) (a2 : Int32) (g : am_S) : vX0_takenBytes_4 a1 a2 g = if 64 ≤ a2 then (some (.inl (some (.inl a1)), g)) else am_g (am_in a2 64) (if (g 12 0 a2.toNatClampNeg) = 0 then (vX0_takenBytes_4 a1 (a2 + 1) g) else vX0_takenBytes_4 (a1 + 1) (a2 + 1) g) := (am_E_blk lX0_takenBytes [4] 22 _).trans rfl
noncomputable def tX0_clearClaims : List (Nat × am_I) := [(0, im_ic 0 1), (1, im_is 1 1), (2, im_il 1 1), (3, im_ic 64 2), (5, im_cge 21), (8, im_al 0 1), (9, im_gf 11 1 13), (12, im_il 1 1), (13, im_ic 0 1), (14, im_si), (15, im_in 1 1), (18, im_go 2), (21, im_rv)]
theorem lX0_clearClaims : am_linT tX0_clearClaims := List.forall_mem_cons.mpr ⟨ln_ic _ _, List.forall_mem_cons.mpr ⟨ln_is _ _, List.forall_mem_cons.mpr ⟨ln_il _ _, List.forall_mem_cons.mpr ⟨ln_ic _ _, List.forall_mem_cons.mpr ⟨ln_cge _, List.forall_mem_cons.mpr ⟨ln_al _ _, List.forall_mem_cons.mpr ⟨ln_gf 11 1 13, List.forall_mem_cons.mpr ⟨ln_il _ _, List.forall_mem_cons.mpr ⟨ln_ic _ _, List.forall_mem_cons.mpr ⟨ln_si, List.forall_mem_cons.mpr ⟨ln_in _ _, List.forall_mem_cons.mpr ⟨ln_go _, List.forall_mem_cons.mpr ⟨ln_rv, fun _ h => absurd h List.not_mem_nil⟩⟩⟩⟩⟩⟩⟩⟩⟩⟩⟩⟩⟩
def rX0_clearClaims : Room := { frames := 0, cells := 1, slots := 6, locals := 0 }
set_option maxRecDepth 100000 in
theorem hX0_clearClaims {p : Program} {l : Launch} {e : Env} {s : State} {m : MethodId} {args : Array Value} {below : List Frame} {meth : Method} {c : Code} {D : va_G} {cy : Nat → ClassId} {o : Nat} (hl : l.stackTraces = false) (hX : am_X p l rX0_clearClaims s m args meth c D cy o cX0_clearClaims 2 yX0_clearClaims.cls none) : ∀ q ∈ tX0_clearClaims, am_OK p l e rX0_clearClaims s m args below meth c D cy o 2 q.1 q.2 := List.forall_mem_cons.mpr ⟨ok_ic hX (n := 0) (by decide +kernel) (by decide), List.forall_mem_cons.mpr ⟨ok_isn hX (k := 1) (by decide +kernel) rfl (by decide), List.forall_mem_cons.mpr ⟨ok_iln hX (k := 1) (by decide +kernel) rfl, List.forall_mem_cons.mpr ⟨ok_bi hX (n := 64) (by decide +kernel) (by decide), List.forall_mem_cons.mpr ⟨ok_cge hX (off := 16) (by decide +kernel) (by decide), List.forall_mem_cons.mpr ⟨ok_aln hX (k := 0) (by decide +kernel) rfl, List.forall_mem_cons.mpr ⟨ok_gf hX (f := 11) (j := 1) (idx := 15) (C := RX0) (T := TX0) (N := 3) (by decide) rfl rfl rfl (by decide) iw0 tw_184 rfl rfl rfl (by decide +kernel), List.forall_mem_cons.mpr ⟨ok_iln hX (k := 1) (by decide +kernel) rfl, List.forall_mem_cons.mpr ⟨ok_ic hX (n := 0) (by decide +kernel) (by decide), List.forall_mem_cons.mpr ⟨ok_ast hX (by decide +kernel), List.forall_mem_cons.mpr ⟨ok_in hX (n := 1) (by decide +kernel) (by decide) (by decide), List.forall_mem_cons.mpr ⟨ok_go hX (off := (-16)) (by decide +kernel) (by decide), List.forall_mem_cons.mpr ⟨ok_rv hX (by decide +kernel) rfl, fun _ h => absurd h List.not_mem_nil⟩⟩⟩⟩⟩⟩⟩⟩⟩⟩⟩⟩⟩
theorem kX0_clearClaims (l : Launch) (hl : l.stackTraces = false) : am_Ct l yX0_clearClaims cX0_clearClaims 2 none rX0_clearClaims (am_M tX0_clearClaims 2) := am_met hl (by decide +kernel) ⟨rfl, rfl⟩ (fun _ _ _ _ _ _ _ _ _ _ _ hX => hX0_clearClaims hl hX)
noncomputable def vX0_clearClaims (g : am_S) : am_R := am_E tX0_clearClaims (0, [some (.inr (.inr (11, 0))), none], [], g)
noncomputable def vX0_clearClaims_2 (a1 : Int32) (g : am_S) : am_R := am_E tX0_clearClaims (2, [some (.inr (.inr (11, 0))), some (.inl a1)], [], g)
theorem eX0_clearClaims (g : am_S) : vX0_clearClaims g = vX0_clearClaims_2 0 g := (am_E_blk lX0_clearClaims [2] 18 _).trans rfl
theorem eX0_clearClaims_2 (a1 : Int32) (g : am_S) : vX0_clearClaims_2 a1 g = if 64 ≤ a1 then (some (.inl none, g)) else am_g (am_in a1 64) (vX0_clearClaims_2 (a1 + 1) (am_up g 13 0 a1.toNatClampNeg 0)) := (am_E_blk lX0_clearClaims [2] 18 _).trans rfl
noncomputable def tX0_claim : List (Nat × am_I) := [(0, im_al 1 1), (1, im_gi 5 2), (4, im_ic 2 1), (5, im_ceq 9), (8, im_rv), (9, im_al 1 1), (10, im_gi 5 3), (13, im_is 2 1), (14, im_il 2 1), (15, im_flt 53), (18, im_il 2 1), (19, im_al 1 1), (20, im_gi 5 3), (23, im_al 1 1), (24, im_gi 5 4), (27, im_add), (28, im_cge 53), (31, im_il 2 1), (32, im_ic 64 2), (34, im_cge 53), (37, im_al 0 1), (38, im_gf 11 1 13), (41, im_il 2 1), (42, im_d2), (43, im_ia), (44, im_ic 1 1), (45, im_add), (46, im_si), (47, im_in 2 1), (50, im_go 14), (53, im_rv)]
theorem lX0_claim : am_linT tX0_claim := List.forall_mem_cons.mpr ⟨ln_al _ _, List.forall_mem_cons.mpr ⟨ln_gi _ _, List.forall_mem_cons.mpr ⟨ln_ic _ _, List.forall_mem_cons.mpr ⟨ln_ceq _, List.forall_mem_cons.mpr ⟨ln_rv, List.forall_mem_cons.mpr ⟨ln_al _ _, List.forall_mem_cons.mpr ⟨ln_gi _ _, List.forall_mem_cons.mpr ⟨ln_is _ _, List.forall_mem_cons.mpr ⟨ln_il _ _, List.forall_mem_cons.mpr ⟨ln_flt _, List.forall_mem_cons.mpr ⟨ln_il _ _, List.forall_mem_cons.mpr ⟨ln_al _ _, List.forall_mem_cons.mpr ⟨ln_gi _ _, List.forall_mem_cons.mpr ⟨ln_al _ _, List.forall_mem_cons.mpr ⟨ln_gi _ _, List.forall_mem_cons.mpr ⟨ln_add, List.forall_mem_cons.mpr ⟨ln_cge _, List.forall_mem_cons.mpr ⟨ln_il _ _, List.forall_mem_cons.mpr ⟨ln_ic _ _, List.forall_mem_cons.mpr ⟨ln_cge _, List.forall_mem_cons.mpr ⟨ln_al _ _, List.forall_mem_cons.mpr ⟨ln_gf 11 1 13, List.forall_mem_cons.mpr ⟨ln_il _ _, List.forall_mem_cons.mpr ⟨ln_d2, List.forall_mem_cons.mpr ⟨ln_ia, List.forall_mem_cons.mpr ⟨ln_ic _ _, List.forall_mem_cons.mpr ⟨ln_add, List.forall_mem_cons.mpr ⟨ln_si, List.forall_mem_cons.mpr ⟨ln_in _ _, List.forall_mem_cons.mpr ⟨ln_go _, List.forall_mem_cons.mpr ⟨ln_rv, fun _ h => absurd h List.not_mem_nil⟩⟩⟩⟩⟩⟩⟩⟩⟩⟩⟩⟩⟩⟩⟩⟩⟩⟩⟩⟩⟩⟩⟩⟩⟩⟩⟩⟩⟩⟩⟩
def rX0_claim : Room := { frames := 0, cells := 1, slots := 6, locals := 0 }
set_option maxRecDepth 100000 in
theorem hX0_claim {p : Program} {l : Launch} {e : Env} {s : State} {m : MethodId} {args : Array Value} {below : List Frame} {meth : Method} {c : Code} {D : va_G} {cy : Nat → ClassId} {o : Nat} (hl : l.stackTraces = false) (hX : am_X p l rX0_claim s m args meth c D cy o cX0_claim 3 yX0_claim.cls none) : ∀ q ∈ tX0_claim, am_OK p l e rX0_claim s m args below meth c D cy o 3 q.1 q.2 := List.forall_mem_cons.mpr ⟨ok_aln hX (k := 1) (by decide +kernel) rfl, List.forall_mem_cons.mpr ⟨ok_gi hX (f := 5) (j := 2) (idx := 33) (C := RX3) (T := TX3) (N := 8) (by decide) rfl rfl rfl (by decide) iw3 tw_104 rfl rfl (by decide +kernel), List.forall_mem_cons.mpr ⟨ok_ic hX (n := 2) (by decide +kernel) (by decide), List.forall_mem_cons.mpr ⟨ok_ceq hX (off := 4) (by decide +kernel) (by decide), List.forall_mem_cons.mpr ⟨ok_rv hX (by decide +kernel) rfl, List.forall_mem_cons.mpr ⟨ok_aln hX (k := 1) (by decide +kernel) rfl, List.forall_mem_cons.mpr ⟨ok_gi hX (f := 5) (j := 3) (idx := 36) (C := RX3) (T := TX3) (N := 8) (by decide) rfl rfl rfl (by decide) iw3 tw_109 rfl rfl (by decide +kernel), List.forall_mem_cons.mpr ⟨ok_isn hX (k := 2) (by decide +kernel) rfl (by decide), List.forall_mem_cons.mpr ⟨ok_iln hX (k := 2) (by decide +kernel) rfl, List.forall_mem_cons.mpr ⟨ok_flt hX (off := 38) (by decide +kernel) (by decide), List.forall_mem_cons.mpr ⟨ok_iln hX (k := 2) (by decide +kernel) rfl, List.forall_mem_cons.mpr ⟨ok_aln hX (k := 1) (by decide +kernel) rfl, List.forall_mem_cons.mpr ⟨ok_gi hX (f := 5) (j := 3) (idx := 36) (C := RX3) (T := TX3) (N := 8) (by decide) rfl rfl rfl (by decide) iw3 tw_109 rfl rfl (by decide +kernel), List.forall_mem_cons.mpr ⟨ok_aln hX (k := 1) (by decide +kernel) rfl, List.forall_mem_cons.mpr ⟨ok_gi hX (f := 5) (j := 4) (idx := 39) (C := RX3) (T := TX3) (N := 8) (by decide) rfl rfl rfl (by decide) iw3 tw_113 rfl rfl (by decide +kernel), List.forall_mem_cons.mpr ⟨ok_add hX (by decide +kernel), List.forall_mem_cons.mpr ⟨ok_cge hX (off := 25) (by decide +kernel) (by decide), List.forall_mem_cons.mpr ⟨ok_iln hX (k := 2) (by decide +kernel) rfl, List.forall_mem_cons.mpr ⟨ok_bi hX (n := 64) (by decide +kernel) (by decide), List.forall_mem_cons.mpr ⟨ok_cge hX (off := 19) (by decide +kernel) (by decide), List.forall_mem_cons.mpr ⟨ok_aln hX (k := 0) (by decide +kernel) rfl, List.forall_mem_cons.mpr ⟨ok_gf hX (f := 11) (j := 1) (idx := 15) (C := RX0) (T := TX0) (N := 3) (by decide) rfl rfl rfl (by decide) iw0 tw_184 rfl rfl rfl (by decide +kernel), List.forall_mem_cons.mpr ⟨ok_iln hX (k := 2) (by decide +kernel) rfl, List.forall_mem_cons.mpr ⟨ok_d2 hX (by decide +kernel), List.forall_mem_cons.mpr ⟨ok_ia hX (by decide +kernel), List.forall_mem_cons.mpr ⟨ok_ic hX (n := 1) (by decide +kernel) (by decide), List.forall_mem_cons.mpr ⟨ok_add hX (by decide +kernel), List.forall_mem_cons.mpr ⟨ok_ast hX (by decide +kernel), List.forall_mem_cons.mpr ⟨ok_in hX (n := 1) (by decide +kernel) (by decide) (by decide), List.forall_mem_cons.mpr ⟨ok_go hX (off := (-36)) (by decide +kernel) (by decide), List.forall_mem_cons.mpr ⟨ok_rv hX (by decide +kernel) rfl, fun _ h => absurd h List.not_mem_nil⟩⟩⟩⟩⟩⟩⟩⟩⟩⟩⟩⟩⟩⟩⟩⟩⟩⟩⟩⟩⟩⟩⟩⟩⟩⟩⟩⟩⟩⟩⟩
theorem kX0_claim (l : Launch) (hl : l.stackTraces = false) : am_Ct l yX0_claim cX0_claim 3 none rX0_claim (am_M tX0_claim 3) := am_met hl (by decide +kernel) ⟨rfl, rfl⟩ (fun _ _ _ _ _ _ _ _ _ _ _ hX => hX0_claim hl hX)
noncomputable def vX0_claim (a1 : Int32) (g : am_S) : am_R := am_E tX0_claim (0, [some (.inr (.inr (11, 0))), some (.inr (.inr (5, a1))), none], [], g)
noncomputable def vX0_claim_14 (a1 : Int32) (a2 : Int32) (g : am_S) : am_R := am_E tX0_claim (14, [some (.inr (.inr (11, 0))), some (.inr (.inr (5, a1))), some (.inl a2)], [], g)
theorem eX0_claim (a1 : Int32) (g : am_S) : vX0_claim a1 g = am_g (am_in a1 128) (if (g 5 a1.toNatClampNeg 2) = 2 then (am_g (am_in a1 128) (vX0_claim_14 a1 (g 5 a1.toNatClampNeg 3) g)) else some (.inl none, g)) := (am_E_blk lX0_claim [14] 36 _).trans rfl
theorem eX0_claim_14 (a1 : Int32) (a2 : Int32) (g : am_S) : vX0_claim_14 a1 a2 g = if a2 < 0 then (some (.inl none, g)) else am_g (am_in a1 128) (am_g (am_in a1 128) (if ((g 5 a1.toNatClampNeg 3) + (g 5 a1.toNatClampNeg 4)) ≤ a2 then (some (.inl none, g)) else if 64 ≤ a2 then (some (.inl none, g)) else am_g (am_in a2 64) (am_g (am_in a2 64) (vX0_claim_14 a1 (a2 + 1) (am_up g 13 0 a2.toNatClampNeg ((g 13 0 a2.toNatClampNeg) + 1)))))) := (am_E_blk lX0_claim [14] 36 _).trans rfl
noncomputable def tX0_wrongClaims : List (Nat × am_I) := [(0, im_ic 0 1), (1, im_is 1 1), (2, im_ic 0 1), (3, im_is 2 1), (4, im_il 2 1), (5, im_ic 64 2), (7, im_cge 42), (10, im_al 0 1), (11, im_gf 11 1 13), (14, im_il 2 1), (15, im_ia), (16, im_al 0 1), (17, im_gf 11 0 12), (20, im_il 2 1), (21, im_ba), (22, im_feq 29), (25, im_ic 1 1), (26, im_go 30), (29, im_ic 0 1), (30, im_ceq 36), (33, im_in 1 1), (36, im_in 2 1), (39, im_go 4), (42, im_il 1 1), (43, im_ri)]
theorem lX0_wrongClaims : am_linT tX0_wrongClaims := List.forall_mem_cons.mpr ⟨ln_ic _ _, List.forall_mem_cons.mpr ⟨ln_is _ _, List.forall_mem_cons.mpr ⟨ln_ic _ _, List.forall_mem_cons.mpr ⟨ln_is _ _, List.forall_mem_cons.mpr ⟨ln_il _ _, List.forall_mem_cons.mpr ⟨ln_ic _ _, List.forall_mem_cons.mpr ⟨ln_cge _, List.forall_mem_cons.mpr ⟨ln_al _ _, List.forall_mem_cons.mpr ⟨ln_gf 11 1 13, List.forall_mem_cons.mpr ⟨ln_il _ _, List.forall_mem_cons.mpr ⟨ln_ia, List.forall_mem_cons.mpr ⟨ln_al _ _, List.forall_mem_cons.mpr ⟨ln_gf 11 0 12, List.forall_mem_cons.mpr ⟨ln_il _ _, List.forall_mem_cons.mpr ⟨ln_ba, List.forall_mem_cons.mpr ⟨ln_feq _, List.forall_mem_cons.mpr ⟨ln_ic _ _, List.forall_mem_cons.mpr ⟨ln_go _, List.forall_mem_cons.mpr ⟨ln_ic _ _, List.forall_mem_cons.mpr ⟨ln_ceq _, List.forall_mem_cons.mpr ⟨ln_in _ _, List.forall_mem_cons.mpr ⟨ln_in _ _, List.forall_mem_cons.mpr ⟨ln_go _, List.forall_mem_cons.mpr ⟨ln_il _ _, List.forall_mem_cons.mpr ⟨ln_ri, fun _ h => absurd h List.not_mem_nil⟩⟩⟩⟩⟩⟩⟩⟩⟩⟩⟩⟩⟩⟩⟩⟩⟩⟩⟩⟩⟩⟩⟩⟩⟩
def rX0_wrongClaims : Room := { frames := 0, cells := 1, slots := 6, locals := 0 }
set_option maxRecDepth 100000 in
theorem hX0_wrongClaims {p : Program} {l : Launch} {e : Env} {s : State} {m : MethodId} {args : Array Value} {below : List Frame} {meth : Method} {c : Code} {D : va_G} {cy : Nat → ClassId} {o : Nat} (hl : l.stackTraces = false) (hX : am_X p l rX0_wrongClaims s m args meth c D cy o cX0_wrongClaims 3 yX0_wrongClaims.cls (some .int)) : ∀ q ∈ tX0_wrongClaims, am_OK p l e rX0_wrongClaims s m args below meth c D cy o 3 q.1 q.2 := List.forall_mem_cons.mpr ⟨ok_ic hX (n := 0) (by decide +kernel) (by decide), List.forall_mem_cons.mpr ⟨ok_isn hX (k := 1) (by decide +kernel) rfl (by decide), List.forall_mem_cons.mpr ⟨ok_ic hX (n := 0) (by decide +kernel) (by decide), List.forall_mem_cons.mpr ⟨ok_isn hX (k := 2) (by decide +kernel) rfl (by decide), List.forall_mem_cons.mpr ⟨ok_iln hX (k := 2) (by decide +kernel) rfl, List.forall_mem_cons.mpr ⟨ok_bi hX (n := 64) (by decide +kernel) (by decide), List.forall_mem_cons.mpr ⟨ok_cge hX (off := 35) (by decide +kernel) (by decide), List.forall_mem_cons.mpr ⟨ok_aln hX (k := 0) (by decide +kernel) rfl, List.forall_mem_cons.mpr ⟨ok_gf hX (f := 11) (j := 1) (idx := 15) (C := RX0) (T := TX0) (N := 3) (by decide) rfl rfl rfl (by decide) iw0 tw_184 rfl rfl rfl (by decide +kernel), List.forall_mem_cons.mpr ⟨ok_iln hX (k := 2) (by decide +kernel) rfl, List.forall_mem_cons.mpr ⟨ok_ia hX (by decide +kernel), List.forall_mem_cons.mpr ⟨ok_aln hX (k := 0) (by decide +kernel) rfl, List.forall_mem_cons.mpr ⟨ok_gf hX (f := 11) (j := 0) (idx := 9) (C := RX0) (T := TX0) (N := 3) (by decide) rfl rfl rfl (by decide) iw0 tw_183 rfl rfl rfl (by decide +kernel), List.forall_mem_cons.mpr ⟨ok_iln hX (k := 2) (by decide +kernel) rfl, List.forall_mem_cons.mpr ⟨ok_ba hX (by decide +kernel), List.forall_mem_cons.mpr ⟨ok_feq hX (off := 7) (by decide +kernel) (by decide), List.forall_mem_cons.mpr ⟨ok_ic hX (n := 1) (by decide +kernel) (by decide), List.forall_mem_cons.mpr ⟨ok_go hX (off := 4) (by decide +kernel) (by decide), List.forall_mem_cons.mpr ⟨ok_ic hX (n := 0) (by decide +kernel) (by decide), List.forall_mem_cons.mpr ⟨ok_ceq hX (off := 6) (by decide +kernel) (by decide), List.forall_mem_cons.mpr ⟨ok_in hX (n := 1) (by decide +kernel) (by decide) (by decide), List.forall_mem_cons.mpr ⟨ok_in hX (n := 1) (by decide +kernel) (by decide) (by decide), List.forall_mem_cons.mpr ⟨ok_go hX (off := (-35)) (by decide +kernel) (by decide), List.forall_mem_cons.mpr ⟨ok_iln hX (k := 1) (by decide +kernel) rfl, List.forall_mem_cons.mpr ⟨ok_ri hX (by decide +kernel) rfl, fun _ h => absurd h List.not_mem_nil⟩⟩⟩⟩⟩⟩⟩⟩⟩⟩⟩⟩⟩⟩⟩⟩⟩⟩⟩⟩⟩⟩⟩⟩⟩
theorem kX0_wrongClaims (l : Launch) (hl : l.stackTraces = false) : am_Ct l yX0_wrongClaims cX0_wrongClaims 3 (some .int) rX0_wrongClaims (am_M tX0_wrongClaims 3) := am_met hl (by decide +kernel) ⟨rfl, rfl⟩ (fun _ _ _ _ _ _ _ _ _ _ _ hX => hX0_wrongClaims hl hX)
noncomputable def vX0_wrongClaims (g : am_S) : am_R := am_E tX0_wrongClaims (0, [some (.inr (.inr (11, 0))), none, none], [], g)
noncomputable def vX0_wrongClaims_4 (a1 : Int32) (a2 : Int32) (g : am_S) : am_R := am_E tX0_wrongClaims (4, [some (.inr (.inr (11, 0))), some (.inl a1), some (.inl a2)], [], g)
theorem eX0_wrongClaims (g : am_S) : vX0_wrongClaims g = vX0_wrongClaims_4 0 0 g := (am_E_blk lX0_wrongClaims [4] 30 _).trans rfl
theorem eX0_wrongClaims_4 (a1 : Int32) (a2 : Int32) (g : am_S) : vX0_wrongClaims_4 a1 a2 g = if 64 ≤ a2 then (some (.inl (some (.inl a1)), g)) else am_g (am_in a2 64) (am_g (am_in a2 64) (if (g 12 0 a2.toNatClampNeg) = 0 then (if (g 13 0 a2.toNatClampNeg) = 0 then (vX0_wrongClaims_4 a1 (a2 + 1) g) else vX0_wrongClaims_4 (a1 + 1) (a2 + 1) g) else if (g 13 0 a2.toNatClampNeg) = 1 then (vX0_wrongClaims_4 a1 (a2 + 1) g) else vX0_wrongClaims_4 (a1 + 1) (a2 + 1) g)) := (am_E_blk lX0_wrongClaims [4] 30 _).trans rfl
noncomputable def tX1_countFree : List (Nat × am_I) := [(0, im_ic 0 1), (1, im_is 1 1), (2, im_ic 0 1), (3, im_is 2 1), (4, im_il 2 1), (5, im_ic 24 2), (7, im_cge 28), (10, im_al 0 1), (11, im_gf 14 0 15), (14, im_il 2 1), (15, im_ia), (16, im_fne 22), (19, im_in 1 1), (22, im_in 2 1), (25, im_go 4), (28, im_il 1 1), (29, im_ri)]
theorem lX1_countFree : am_linT tX1_countFree := List.forall_mem_cons.mpr ⟨ln_ic _ _, List.forall_mem_cons.mpr ⟨ln_is _ _, List.forall_mem_cons.mpr ⟨ln_ic _ _, List.forall_mem_cons.mpr ⟨ln_is _ _, List.forall_mem_cons.mpr ⟨ln_il _ _, List.forall_mem_cons.mpr ⟨ln_ic _ _, List.forall_mem_cons.mpr ⟨ln_cge _, List.forall_mem_cons.mpr ⟨ln_al _ _, List.forall_mem_cons.mpr ⟨ln_gf 14 0 15, List.forall_mem_cons.mpr ⟨ln_il _ _, List.forall_mem_cons.mpr ⟨ln_ia, List.forall_mem_cons.mpr ⟨ln_fne _, List.forall_mem_cons.mpr ⟨ln_in _ _, List.forall_mem_cons.mpr ⟨ln_in _ _, List.forall_mem_cons.mpr ⟨ln_go _, List.forall_mem_cons.mpr ⟨ln_il _ _, List.forall_mem_cons.mpr ⟨ln_ri, fun _ h => absurd h List.not_mem_nil⟩⟩⟩⟩⟩⟩⟩⟩⟩⟩⟩⟩⟩⟩⟩⟩⟩
def rX1_countFree : Room := { frames := 0, cells := 1, slots := 6, locals := 0 }
set_option maxRecDepth 100000 in
theorem hX1_countFree {p : Program} {l : Launch} {e : Env} {s : State} {m : MethodId} {args : Array Value} {below : List Frame} {meth : Method} {c : Code} {D : va_G} {cy : Nat → ClassId} {o : Nat} (hl : l.stackTraces = false) (hX : am_X p l rX1_countFree s m args meth c D cy o cX1_countFree 3 yX1_countFree.cls (some .int)) : ∀ q ∈ tX1_countFree, am_OK p l e rX1_countFree s m args below meth c D cy o 3 q.1 q.2 := List.forall_mem_cons.mpr ⟨ok_ic hX (n := 0) (by decide +kernel) (by decide), List.forall_mem_cons.mpr ⟨ok_isn hX (k := 1) (by decide +kernel) rfl (by decide), List.forall_mem_cons.mpr ⟨ok_ic hX (n := 0) (by decide +kernel) (by decide), List.forall_mem_cons.mpr ⟨ok_isn hX (k := 2) (by decide +kernel) rfl (by decide), List.forall_mem_cons.mpr ⟨ok_iln hX (k := 2) (by decide +kernel) rfl, List.forall_mem_cons.mpr ⟨ok_bi hX (n := 24) (by decide +kernel) (by decide), List.forall_mem_cons.mpr ⟨ok_cge hX (off := 21) (by decide +kernel) (by decide), List.forall_mem_cons.mpr ⟨ok_aln hX (k := 0) (by decide +kernel) rfl, List.forall_mem_cons.mpr ⟨ok_gf hX (f := 14) (j := 0) (idx := 9) (C := RX1) (T := TX1) (N := 4) (by decide) rfl rfl rfl (by decide) iw1 tw_200 rfl rfl rfl (by decide +kernel), List.forall_mem_cons.mpr ⟨ok_iln hX (k := 2) (by decide +kernel) rfl, List.forall_mem_cons.mpr ⟨ok_ia hX (by decide +kernel), List.forall_mem_cons.mpr ⟨ok_fne hX (off := 6) (by decide +kernel) (by decide), List.forall_mem_cons.mpr ⟨ok_in hX (n := 1) (by decide +kernel) (by decide) (by decide), List.forall_mem_cons.mpr ⟨ok_in hX (n := 1) (by decide +kernel) (by decide) (by decide), List.forall_mem_cons.mpr ⟨ok_go hX (off := (-21)) (by decide +kernel) (by decide), List.forall_mem_cons.mpr ⟨ok_iln hX (k := 1) (by decide +kernel) rfl, List.forall_mem_cons.mpr ⟨ok_ri hX (by decide +kernel) rfl, fun _ h => absurd h List.not_mem_nil⟩⟩⟩⟩⟩⟩⟩⟩⟩⟩⟩⟩⟩⟩⟩⟩⟩
theorem kX1_countFree (l : Launch) (hl : l.stackTraces = false) : am_Ct l yX1_countFree cX1_countFree 3 (some .int) rX1_countFree (am_M tX1_countFree 3) := am_met hl (by decide +kernel) ⟨rfl, rfl⟩ (fun _ _ _ _ _ _ _ _ _ _ _ hX => hX1_countFree hl hX)
noncomputable def vX1_countFree (g : am_S) : am_R := am_E tX1_countFree (0, [some (.inr (.inr (14, 0))), none, none], [], g)
noncomputable def vX1_countFree_4 (a1 : Int32) (a2 : Int32) (g : am_S) : am_R := am_E tX1_countFree (4, [some (.inr (.inr (14, 0))), some (.inl a1), some (.inl a2)], [], g)
theorem eX1_countFree (g : am_S) : vX1_countFree g = vX1_countFree_4 0 0 g := (am_E_blk lX1_countFree [4] 22 _).trans rfl
theorem eX1_countFree_4 (a1 : Int32) (a2 : Int32) (g : am_S) : vX1_countFree_4 a1 a2 g = if 24 ≤ a2 then (some (.inl (some (.inl a1)), g)) else am_g (am_in a2 24) (if (g 15 0 a2.toNatClampNeg) = 0 then (vX1_countFree_4 (a1 + 1) (a2 + 1) g) else vX1_countFree_4 a1 (a2 + 1) g) := (am_E_blk lX1_countFree [4] 22 _).trans rfl
noncomputable def tX1_mend : List (Nat × am_I) := [(0, im_al 0 1), (1, im_gf 14 1 16), (4, im_il 1 1), (5, im_ic 0 1), (6, im_sb), (7, im_al 0 1), (8, im_gf 14 2 17), (11, im_il 1 1), (12, im_ic 0 1), (13, im_sb), (14, im_al 0 1), (15, im_gf 14 0 15), (18, im_il 1 1), (19, im_ia), (20, im_ic 2 1), (21, im_cne 31), (24, im_al 0 1), (25, im_gf 14 0 15), (28, im_il 1 1), (29, im_ic 0 1), (30, im_si), (31, im_rv)]
theorem lX1_mend : am_linT tX1_mend := List.forall_mem_cons.mpr ⟨ln_al _ _, List.forall_mem_cons.mpr ⟨ln_gf 14 1 16, List.forall_mem_cons.mpr ⟨ln_il _ _, List.forall_mem_cons.mpr ⟨ln_ic _ _, List.forall_mem_cons.mpr ⟨ln_sb, List.forall_mem_cons.mpr ⟨ln_al _ _, List.forall_mem_cons.mpr ⟨ln_gf 14 2 17, List.forall_mem_cons.mpr ⟨ln_il _ _, List.forall_mem_cons.mpr ⟨ln_ic _ _, List.forall_mem_cons.mpr ⟨ln_sb, List.forall_mem_cons.mpr ⟨ln_al _ _, List.forall_mem_cons.mpr ⟨ln_gf 14 0 15, List.forall_mem_cons.mpr ⟨ln_il _ _, List.forall_mem_cons.mpr ⟨ln_ia, List.forall_mem_cons.mpr ⟨ln_ic _ _, List.forall_mem_cons.mpr ⟨ln_cne _, List.forall_mem_cons.mpr ⟨ln_al _ _, List.forall_mem_cons.mpr ⟨ln_gf 14 0 15, List.forall_mem_cons.mpr ⟨ln_il _ _, List.forall_mem_cons.mpr ⟨ln_ic _ _, List.forall_mem_cons.mpr ⟨ln_si, List.forall_mem_cons.mpr ⟨ln_rv, fun _ h => absurd h List.not_mem_nil⟩⟩⟩⟩⟩⟩⟩⟩⟩⟩⟩⟩⟩⟩⟩⟩⟩⟩⟩⟩⟩⟩
def rX1_mend : Room := { frames := 0, cells := 1, slots := 6, locals := 0 }
set_option maxRecDepth 100000 in
theorem hX1_mend {p : Program} {l : Launch} {e : Env} {s : State} {m : MethodId} {args : Array Value} {below : List Frame} {meth : Method} {c : Code} {D : va_G} {cy : Nat → ClassId} {o : Nat} (hl : l.stackTraces = false) (hX : am_X p l rX1_mend s m args meth c D cy o cX1_mend 2 yX1_mend.cls none) : ∀ q ∈ tX1_mend, am_OK p l e rX1_mend s m args below meth c D cy o 2 q.1 q.2 := List.forall_mem_cons.mpr ⟨ok_aln hX (k := 0) (by decide +kernel) rfl, List.forall_mem_cons.mpr ⟨ok_gf hX (f := 14) (j := 1) (idx := 15) (C := RX1) (T := TX1) (N := 4) (by decide) rfl rfl rfl (by decide) iw1 tw_202 rfl rfl rfl (by decide +kernel), List.forall_mem_cons.mpr ⟨ok_iln hX (k := 1) (by decide +kernel) rfl, List.forall_mem_cons.mpr ⟨ok_ic hX (n := 0) (by decide +kernel) (by decide), List.forall_mem_cons.mpr ⟨ok_bst hX (by decide +kernel), List.forall_mem_cons.mpr ⟨ok_aln hX (k := 0) (by decide +kernel) rfl, List.forall_mem_cons.mpr ⟨ok_gf hX (f := 14) (j := 2) (idx := 19) (C := RX1) (T := TX1) (N := 4) (by decide) rfl rfl rfl (by decide) iw1 tw_204 rfl rfl rfl (by decide +kernel), List.forall_mem_cons.mpr ⟨ok_iln hX (k := 1) (by decide +kernel) rfl, List.forall_mem_cons.mpr ⟨ok_ic hX (n := 0) (by decide +kernel) (by decide), List.forall_mem_cons.mpr ⟨ok_bst hX (by decide +kernel), List.forall_mem_cons.mpr ⟨ok_aln hX (k := 0) (by decide +kernel) rfl, List.forall_mem_cons.mpr ⟨ok_gf hX (f := 14) (j := 0) (idx := 9) (C := RX1) (T := TX1) (N := 4) (by decide) rfl rfl rfl (by decide) iw1 tw_200 rfl rfl rfl (by decide +kernel), List.forall_mem_cons.mpr ⟨ok_iln hX (k := 1) (by decide +kernel) rfl, List.forall_mem_cons.mpr ⟨ok_ia hX (by decide +kernel), List.forall_mem_cons.mpr ⟨ok_ic hX (n := 2) (by decide +kernel) (by decide), List.forall_mem_cons.mpr ⟨ok_cne hX (off := 10) (by decide +kernel) (by decide), List.forall_mem_cons.mpr ⟨ok_aln hX (k := 0) (by decide +kernel) rfl, List.forall_mem_cons.mpr ⟨ok_gf hX (f := 14) (j := 0) (idx := 9) (C := RX1) (T := TX1) (N := 4) (by decide) rfl rfl rfl (by decide) iw1 tw_200 rfl rfl rfl (by decide +kernel), List.forall_mem_cons.mpr ⟨ok_iln hX (k := 1) (by decide +kernel) rfl, List.forall_mem_cons.mpr ⟨ok_ic hX (n := 0) (by decide +kernel) (by decide), List.forall_mem_cons.mpr ⟨ok_ast hX (by decide +kernel), List.forall_mem_cons.mpr ⟨ok_rv hX (by decide +kernel) rfl, fun _ h => absurd h List.not_mem_nil⟩⟩⟩⟩⟩⟩⟩⟩⟩⟩⟩⟩⟩⟩⟩⟩⟩⟩⟩⟩⟩⟩
theorem kX1_mend (l : Launch) (hl : l.stackTraces = false) : am_Ct l yX1_mend cX1_mend 2 none rX1_mend (am_M tX1_mend 2) := am_met hl (by decide +kernel) ⟨rfl, rfl⟩ (fun _ _ _ _ _ _ _ _ _ _ _ hX => hX1_mend hl hX)
noncomputable def vX1_mend (a1 : Int32) (g : am_S) : am_R := am_E tX1_mend (0, [some (.inr (.inr (14, 0))), some (.inl a1)], [], g)
theorem eX1_mend (a1 : Int32) (g : am_S) : vX1_mend a1 g = am_g (am_in a1 24) (am_g (am_b 0) (am_g (am_in a1 24) (am_g (am_b 0) (am_g (am_in a1 24) (if ((am_up (am_up g 16 0 a1.toNatClampNeg 0) 17 0 a1.toNatClampNeg 0) 15 0 a1.toNatClampNeg) = 2 then (am_g (am_in a1 24) (some (.inl none, (am_up (am_up (am_up g 16 0 a1.toNatClampNeg 0) 17 0 a1.toNatClampNeg 0) 15 0 a1.toNatClampNeg 0)))) else some (.inl none, (am_up (am_up g 16 0 a1.toNatClampNeg 0) 17 0 a1.toNatClampNeg 0))))))) := (am_E_blk lX1_mend [] 27 _).trans rfl
noncomputable def tX1_takeLowest : List (Nat × am_I) := [(0, im_ic 0 1), (1, im_is 1 1), (2, im_il 1 1), (3, im_ic 24 2), (5, im_cge 51), (8, im_al 0 1), (9, im_gf 14 0 15), (12, im_il 1 1), (13, im_ia), (14, im_feq 20), (17, im_go 45), (20, im_al 0 1), (21, im_gf 14 1 16), (24, im_il 1 1), (25, im_ba), (26, im_fne 38), (29, im_al 0 1), (30, im_gf 14 0 15), (33, im_il 1 1), (34, im_ic 1 1), (35, im_si), (36, im_il 1 1), (37, im_ri), (38, im_al 0 1), (39, im_gf 14 0 15), (42, im_il 1 1), (43, im_ic 2 1), (44, im_si), (45, im_in 1 1), (48, im_go 2), (51, im_ic (-1) 1), (52, im_ri)]
theorem lX1_takeLowest : am_linT tX1_takeLowest := List.forall_mem_cons.mpr ⟨ln_ic _ _, List.forall_mem_cons.mpr ⟨ln_is _ _, List.forall_mem_cons.mpr ⟨ln_il _ _, List.forall_mem_cons.mpr ⟨ln_ic _ _, List.forall_mem_cons.mpr ⟨ln_cge _, List.forall_mem_cons.mpr ⟨ln_al _ _, List.forall_mem_cons.mpr ⟨ln_gf 14 0 15, List.forall_mem_cons.mpr ⟨ln_il _ _, List.forall_mem_cons.mpr ⟨ln_ia, List.forall_mem_cons.mpr ⟨ln_feq _, List.forall_mem_cons.mpr ⟨ln_go _, List.forall_mem_cons.mpr ⟨ln_al _ _, List.forall_mem_cons.mpr ⟨ln_gf 14 1 16, List.forall_mem_cons.mpr ⟨ln_il _ _, List.forall_mem_cons.mpr ⟨ln_ba, List.forall_mem_cons.mpr ⟨ln_fne _, List.forall_mem_cons.mpr ⟨ln_al _ _, List.forall_mem_cons.mpr ⟨ln_gf 14 0 15, List.forall_mem_cons.mpr ⟨ln_il _ _, List.forall_mem_cons.mpr ⟨ln_ic _ _, List.forall_mem_cons.mpr ⟨ln_si, List.forall_mem_cons.mpr ⟨ln_il _ _, List.forall_mem_cons.mpr ⟨ln_ri, List.forall_mem_cons.mpr ⟨ln_al _ _, List.forall_mem_cons.mpr ⟨ln_gf 14 0 15, List.forall_mem_cons.mpr ⟨ln_il _ _, List.forall_mem_cons.mpr ⟨ln_ic _ _, List.forall_mem_cons.mpr ⟨ln_si, List.forall_mem_cons.mpr ⟨ln_in _ _, List.forall_mem_cons.mpr ⟨ln_go _, List.forall_mem_cons.mpr ⟨ln_ic _ _, List.forall_mem_cons.mpr ⟨ln_ri, fun _ h => absurd h List.not_mem_nil⟩⟩⟩⟩⟩⟩⟩⟩⟩⟩⟩⟩⟩⟩⟩⟩⟩⟩⟩⟩⟩⟩⟩⟩⟩⟩⟩⟩⟩⟩⟩⟩
def rX1_takeLowest : Room := { frames := 0, cells := 1, slots := 6, locals := 0 }
set_option maxRecDepth 100000 in
theorem hX1_takeLowest {p : Program} {l : Launch} {e : Env} {s : State} {m : MethodId} {args : Array Value} {below : List Frame} {meth : Method} {c : Code} {D : va_G} {cy : Nat → ClassId} {o : Nat} (hl : l.stackTraces = false) (hX : am_X p l rX1_takeLowest s m args meth c D cy o cX1_takeLowest 2 yX1_takeLowest.cls (some .int)) : ∀ q ∈ tX1_takeLowest, am_OK p l e rX1_takeLowest s m args below meth c D cy o 2 q.1 q.2 := List.forall_mem_cons.mpr ⟨ok_ic hX (n := 0) (by decide +kernel) (by decide), List.forall_mem_cons.mpr ⟨ok_isn hX (k := 1) (by decide +kernel) rfl (by decide), List.forall_mem_cons.mpr ⟨ok_iln hX (k := 1) (by decide +kernel) rfl, List.forall_mem_cons.mpr ⟨ok_bi hX (n := 24) (by decide +kernel) (by decide), List.forall_mem_cons.mpr ⟨ok_cge hX (off := 46) (by decide +kernel) (by decide), List.forall_mem_cons.mpr ⟨ok_aln hX (k := 0) (by decide +kernel) rfl, List.forall_mem_cons.mpr ⟨ok_gf hX (f := 14) (j := 0) (idx := 9) (C := RX1) (T := TX1) (N := 4) (by decide) rfl rfl rfl (by decide) iw1 tw_200 rfl rfl rfl (by decide +kernel), List.forall_mem_cons.mpr ⟨ok_iln hX (k := 1) (by decide +kernel) rfl, List.forall_mem_cons.mpr ⟨ok_ia hX (by decide +kernel), List.forall_mem_cons.mpr ⟨ok_feq hX (off := 6) (by decide +kernel) (by decide), List.forall_mem_cons.mpr ⟨ok_go hX (off := 28) (by decide +kernel) (by decide), List.forall_mem_cons.mpr ⟨ok_aln hX (k := 0) (by decide +kernel) rfl, List.forall_mem_cons.mpr ⟨ok_gf hX (f := 14) (j := 1) (idx := 15) (C := RX1) (T := TX1) (N := 4) (by decide) rfl rfl rfl (by decide) iw1 tw_202 rfl rfl rfl (by decide +kernel), List.forall_mem_cons.mpr ⟨ok_iln hX (k := 1) (by decide +kernel) rfl, List.forall_mem_cons.mpr ⟨ok_ba hX (by decide +kernel), List.forall_mem_cons.mpr ⟨ok_fne hX (off := 12) (by decide +kernel) (by decide), List.forall_mem_cons.mpr ⟨ok_aln hX (k := 0) (by decide +kernel) rfl, List.forall_mem_cons.mpr ⟨ok_gf hX (f := 14) (j := 0) (idx := 9) (C := RX1) (T := TX1) (N := 4) (by decide) rfl rfl rfl (by decide) iw1 tw_200 rfl rfl rfl (by decide +kernel), List.forall_mem_cons.mpr ⟨ok_iln hX (k := 1) (by decide +kernel) rfl, List.forall_mem_cons.mpr ⟨ok_ic hX (n := 1) (by decide +kernel) (by decide), List.forall_mem_cons.mpr ⟨ok_ast hX (by decide +kernel), List.forall_mem_cons.mpr ⟨ok_iln hX (k := 1) (by decide +kernel) rfl, List.forall_mem_cons.mpr ⟨ok_ri hX (by decide +kernel) rfl, List.forall_mem_cons.mpr ⟨ok_aln hX (k := 0) (by decide +kernel) rfl, List.forall_mem_cons.mpr ⟨ok_gf hX (f := 14) (j := 0) (idx := 9) (C := RX1) (T := TX1) (N := 4) (by decide) rfl rfl rfl (by decide) iw1 tw_200 rfl rfl rfl (by decide +kernel), List.forall_mem_cons.mpr ⟨ok_iln hX (k := 1) (by decide +kernel) rfl, List.forall_mem_cons.mpr ⟨ok_ic hX (n := 2) (by decide +kernel) (by decide), List.forall_mem_cons.mpr ⟨ok_ast hX (by decide +kernel), List.forall_mem_cons.mpr ⟨ok_in hX (n := 1) (by decide +kernel) (by decide) (by decide), List.forall_mem_cons.mpr ⟨ok_go hX (off := (-46)) (by decide +kernel) (by decide), List.forall_mem_cons.mpr ⟨ok_ic hX (n := (-1)) (by decide +kernel) (by decide), List.forall_mem_cons.mpr ⟨ok_ri hX (by decide +kernel) rfl, fun _ h => absurd h List.not_mem_nil⟩⟩⟩⟩⟩⟩⟩⟩⟩⟩⟩⟩⟩⟩⟩⟩⟩⟩⟩⟩⟩⟩⟩⟩⟩⟩⟩⟩⟩⟩⟩⟩
theorem kX1_takeLowest (l : Launch) (hl : l.stackTraces = false) : am_Ct l yX1_takeLowest cX1_takeLowest 2 (some .int) rX1_takeLowest (am_M tX1_takeLowest 2) := am_met hl (by decide +kernel) ⟨rfl, rfl⟩ (fun _ _ _ _ _ _ _ _ _ _ _ hX => hX1_takeLowest hl hX)
noncomputable def vX1_takeLowest (g : am_S) : am_R := am_E tX1_takeLowest (0, [some (.inr (.inr (14, 0))), none], [], g)
noncomputable def vX1_takeLowest_2 (a1 : Int32) (g : am_S) : am_R := am_E tX1_takeLowest (2, [some (.inr (.inr (14, 0))), some (.inl a1)], [], g)
theorem eX1_takeLowest (g : am_S) : vX1_takeLowest g = vX1_takeLowest_2 0 g := (am_E_blk lX1_takeLowest [2] 37 _).trans rfl
theorem eX1_takeLowest_2 (a1 : Int32) (g : am_S) : vX1_takeLowest_2 a1 g = if 24 ≤ a1 then (some (.inl (some (.inl (-1))), g)) else am_g (am_in a1 24) (if (g 15 0 a1.toNatClampNeg) = 0 then (am_g (am_in a1 24) (if (g 16 0 a1.toNatClampNeg) = 0 then (am_g (am_in a1 24) (some (.inl (some (.inl a1)), (am_up g 15 0 a1.toNatClampNeg 1)))) else am_g (am_in a1 24) (vX1_takeLowest_2 (a1 + 1) (am_up g 15 0 a1.toNatClampNeg 2)))) else vX1_takeLowest_2 (a1 + 1) g) := (am_E_blk lX1_takeLowest [2] 37 _).trans rfl
noncomputable def tX1_isGone : List (Nat × am_I) := [(0, im_il 1 1), (1, im_flt 19), (4, im_il 1 1), (5, im_ic 24 2), (7, im_cge 19), (10, im_al 0 1), (11, im_gf 14 2 17), (14, im_il 1 1), (15, im_ba), (16, im_feq 23), (19, im_ic 1 1), (20, im_go 24), (23, im_ic 0 1), (24, im_rz)]
theorem lX1_isGone : am_linT tX1_isGone := List.forall_mem_cons.mpr ⟨ln_il _ _, List.forall_mem_cons.mpr ⟨ln_flt _, List.forall_mem_cons.mpr ⟨ln_il _ _, List.forall_mem_cons.mpr ⟨ln_ic _ _, List.forall_mem_cons.mpr ⟨ln_cge _, List.forall_mem_cons.mpr ⟨ln_al _ _, List.forall_mem_cons.mpr ⟨ln_gf 14 2 17, List.forall_mem_cons.mpr ⟨ln_il _ _, List.forall_mem_cons.mpr ⟨ln_ba, List.forall_mem_cons.mpr ⟨ln_feq _, List.forall_mem_cons.mpr ⟨ln_ic _ _, List.forall_mem_cons.mpr ⟨ln_go _, List.forall_mem_cons.mpr ⟨ln_ic _ _, List.forall_mem_cons.mpr ⟨ln_rz, fun _ h => absurd h List.not_mem_nil⟩⟩⟩⟩⟩⟩⟩⟩⟩⟩⟩⟩⟩⟩
def rX1_isGone : Room := { frames := 0, cells := 1, slots := 6, locals := 0 }
set_option maxRecDepth 100000 in
theorem hX1_isGone {p : Program} {l : Launch} {e : Env} {s : State} {m : MethodId} {args : Array Value} {below : List Frame} {meth : Method} {c : Code} {D : va_G} {cy : Nat → ClassId} {o : Nat} (hl : l.stackTraces = false) (hX : am_X p l rX1_isGone s m args meth c D cy o cX1_isGone 2 yX1_isGone.cls (some .boolean)) : ∀ q ∈ tX1_isGone, am_OK p l e rX1_isGone s m args below meth c D cy o 2 q.1 q.2 := List.forall_mem_cons.mpr ⟨ok_iln hX (k := 1) (by decide +kernel) rfl, List.forall_mem_cons.mpr ⟨ok_flt hX (off := 18) (by decide +kernel) (by decide), List.forall_mem_cons.mpr ⟨ok_iln hX (k := 1) (by decide +kernel) rfl, List.forall_mem_cons.mpr ⟨ok_bi hX (n := 24) (by decide +kernel) (by decide), List.forall_mem_cons.mpr ⟨ok_cge hX (off := 12) (by decide +kernel) (by decide), List.forall_mem_cons.mpr ⟨ok_aln hX (k := 0) (by decide +kernel) rfl, List.forall_mem_cons.mpr ⟨ok_gf hX (f := 14) (j := 2) (idx := 19) (C := RX1) (T := TX1) (N := 4) (by decide) rfl rfl rfl (by decide) iw1 tw_204 rfl rfl rfl (by decide +kernel), List.forall_mem_cons.mpr ⟨ok_iln hX (k := 1) (by decide +kernel) rfl, List.forall_mem_cons.mpr ⟨ok_ba hX (by decide +kernel), List.forall_mem_cons.mpr ⟨ok_feq hX (off := 7) (by decide +kernel) (by decide), List.forall_mem_cons.mpr ⟨ok_ic hX (n := 1) (by decide +kernel) (by decide), List.forall_mem_cons.mpr ⟨ok_go hX (off := 4) (by decide +kernel) (by decide), List.forall_mem_cons.mpr ⟨ok_ic hX (n := 0) (by decide +kernel) (by decide), List.forall_mem_cons.mpr ⟨ok_rz hX (by decide +kernel) rfl, fun _ h => absurd h List.not_mem_nil⟩⟩⟩⟩⟩⟩⟩⟩⟩⟩⟩⟩⟩⟩
theorem kX1_isGone (l : Launch) (hl : l.stackTraces = false) : am_Ct l yX1_isGone cX1_isGone 2 (some .boolean) rX1_isGone (am_M tX1_isGone 2) := am_met hl (by decide +kernel) ⟨rfl, rfl⟩ (fun _ _ _ _ _ _ _ _ _ _ _ hX => hX1_isGone hl hX)
noncomputable def vX1_isGone (a1 : Int32) (g : am_S) : am_R := am_E tX1_isGone (0, [some (.inr (.inr (14, 0))), some (.inl a1)], [], g)
theorem eX1_isGone (a1 : Int32) (g : am_S) : vX1_isGone a1 g = if a1 < 0 then (am_g (am_b 1) (some (.inl (some (.inl 1)), g))) else if 24 ≤ a1 then (am_g (am_b 1) (some (.inl (some (.inl 1)), g))) else am_g (am_in a1 24) (if (g 17 0 a1.toNatClampNeg) = 0 then (am_g (am_b 0) (some (.inl (some (.inl 0)), g))) else am_g (am_b 1) (some (.inl (some (.inl 1)), g))) := (am_E_blk lX1_isGone [] 19 _).trans rfl
noncomputable def tX1_release : List (Nat × am_I) := [(0, im_il 1 1), (1, im_flt 24), (4, im_il 1 1), (5, im_ic 24 2), (7, im_cge 24), (10, im_al 0 1), (11, im_gf 14 0 15), (14, im_il 1 1), (15, im_ic 0 1), (16, im_si), (17, im_al 0 1), (18, im_gf 14 2 17), (21, im_il 1 1), (22, im_ic 0 1), (23, im_sb), (24, im_rv)]
theorem lX1_release : am_linT tX1_release := List.forall_mem_cons.mpr ⟨ln_il _ _, List.forall_mem_cons.mpr ⟨ln_flt _, List.forall_mem_cons.mpr ⟨ln_il _ _, List.forall_mem_cons.mpr ⟨ln_ic _ _, List.forall_mem_cons.mpr ⟨ln_cge _, List.forall_mem_cons.mpr ⟨ln_al _ _, List.forall_mem_cons.mpr ⟨ln_gf 14 0 15, List.forall_mem_cons.mpr ⟨ln_il _ _, List.forall_mem_cons.mpr ⟨ln_ic _ _, List.forall_mem_cons.mpr ⟨ln_si, List.forall_mem_cons.mpr ⟨ln_al _ _, List.forall_mem_cons.mpr ⟨ln_gf 14 2 17, List.forall_mem_cons.mpr ⟨ln_il _ _, List.forall_mem_cons.mpr ⟨ln_ic _ _, List.forall_mem_cons.mpr ⟨ln_sb, List.forall_mem_cons.mpr ⟨ln_rv, fun _ h => absurd h List.not_mem_nil⟩⟩⟩⟩⟩⟩⟩⟩⟩⟩⟩⟩⟩⟩⟩⟩
def rX1_release : Room := { frames := 0, cells := 1, slots := 6, locals := 0 }
set_option maxRecDepth 100000 in
theorem hX1_release {p : Program} {l : Launch} {e : Env} {s : State} {m : MethodId} {args : Array Value} {below : List Frame} {meth : Method} {c : Code} {D : va_G} {cy : Nat → ClassId} {o : Nat} (hl : l.stackTraces = false) (hX : am_X p l rX1_release s m args meth c D cy o cX1_release 2 yX1_release.cls none) : ∀ q ∈ tX1_release, am_OK p l e rX1_release s m args below meth c D cy o 2 q.1 q.2 := List.forall_mem_cons.mpr ⟨ok_iln hX (k := 1) (by decide +kernel) rfl, List.forall_mem_cons.mpr ⟨ok_flt hX (off := 23) (by decide +kernel) (by decide), List.forall_mem_cons.mpr ⟨ok_iln hX (k := 1) (by decide +kernel) rfl, List.forall_mem_cons.mpr ⟨ok_bi hX (n := 24) (by decide +kernel) (by decide), List.forall_mem_cons.mpr ⟨ok_cge hX (off := 17) (by decide +kernel) (by decide), List.forall_mem_cons.mpr ⟨ok_aln hX (k := 0) (by decide +kernel) rfl, List.forall_mem_cons.mpr ⟨ok_gf hX (f := 14) (j := 0) (idx := 9) (C := RX1) (T := TX1) (N := 4) (by decide) rfl rfl rfl (by decide) iw1 tw_200 rfl rfl rfl (by decide +kernel), List.forall_mem_cons.mpr ⟨ok_iln hX (k := 1) (by decide +kernel) rfl, List.forall_mem_cons.mpr ⟨ok_ic hX (n := 0) (by decide +kernel) (by decide), List.forall_mem_cons.mpr ⟨ok_ast hX (by decide +kernel), List.forall_mem_cons.mpr ⟨ok_aln hX (k := 0) (by decide +kernel) rfl, List.forall_mem_cons.mpr ⟨ok_gf hX (f := 14) (j := 2) (idx := 19) (C := RX1) (T := TX1) (N := 4) (by decide) rfl rfl rfl (by decide) iw1 tw_204 rfl rfl rfl (by decide +kernel), List.forall_mem_cons.mpr ⟨ok_iln hX (k := 1) (by decide +kernel) rfl, List.forall_mem_cons.mpr ⟨ok_ic hX (n := 0) (by decide +kernel) (by decide), List.forall_mem_cons.mpr ⟨ok_bst hX (by decide +kernel), List.forall_mem_cons.mpr ⟨ok_rv hX (by decide +kernel) rfl, fun _ h => absurd h List.not_mem_nil⟩⟩⟩⟩⟩⟩⟩⟩⟩⟩⟩⟩⟩⟩⟩⟩
theorem kX1_release (l : Launch) (hl : l.stackTraces = false) : am_Ct l yX1_release cX1_release 2 none rX1_release (am_M tX1_release 2) := am_met hl (by decide +kernel) ⟨rfl, rfl⟩ (fun _ _ _ _ _ _ _ _ _ _ _ hX => hX1_release hl hX)
noncomputable def vX1_release (a1 : Int32) (g : am_S) : am_R := am_E tX1_release (0, [some (.inr (.inr (14, 0))), some (.inl a1)], [], g)
theorem eX1_release (a1 : Int32) (g : am_S) : vX1_release a1 g = if a1 < 0 then (some (.inl none, g)) else if 24 ≤ a1 then (some (.inl none, g)) else am_g (am_in a1 24) (am_g (am_in a1 24) (am_g (am_b 0) (some (.inl none, (am_up (am_up g 15 0 a1.toNatClampNeg 0) 17 0 a1.toNatClampNeg 0))))) := (am_E_blk lX1_release [] 21 _).trans rfl
noncomputable def tX1_giveBack : List (Nat × am_I) := [(0, im_al 0 1), (1, im_al 1 1), (2, im_gi 5 5), (5, im_vV 14 1 (am_M tX1_release 2)), (8, im_al 0 1), (9, im_al 1 1), (10, im_gi 5 6), (13, im_vV 14 1 (am_M tX1_release 2)), (16, im_al 1 1), (17, im_ic (-1) 1), (18, im_pi 5 5), (21, im_al 1 1), (22, im_ic (-1) 1), (23, im_pi 5 6), (26, im_rv)]
theorem lX1_giveBack : am_linT tX1_giveBack := List.forall_mem_cons.mpr ⟨ln_al _ _, List.forall_mem_cons.mpr ⟨ln_al _ _, List.forall_mem_cons.mpr ⟨ln_gi _ _, List.forall_mem_cons.mpr ⟨ln_vV _ _ _, List.forall_mem_cons.mpr ⟨ln_al _ _, List.forall_mem_cons.mpr ⟨ln_al _ _, List.forall_mem_cons.mpr ⟨ln_gi _ _, List.forall_mem_cons.mpr ⟨ln_vV _ _ _, List.forall_mem_cons.mpr ⟨ln_al _ _, List.forall_mem_cons.mpr ⟨ln_ic _ _, List.forall_mem_cons.mpr ⟨ln_pi _ _, List.forall_mem_cons.mpr ⟨ln_al _ _, List.forall_mem_cons.mpr ⟨ln_ic _ _, List.forall_mem_cons.mpr ⟨ln_pi _ _, List.forall_mem_cons.mpr ⟨ln_rv, fun _ h => absurd h List.not_mem_nil⟩⟩⟩⟩⟩⟩⟩⟩⟩⟩⟩⟩⟩⟩⟩
def rX1_giveBack : Room := { frames := 1, cells := 1, slots := 6, locals := 21 }
set_option maxRecDepth 100000 in
theorem hX1_giveBack {p : Program} {l : Launch} {e : Env} {s : State} {m : MethodId} {args : Array Value} {below : List Frame} {meth : Method} {c : Code} {D : va_G} {cy : Nat → ClassId} {o : Nat} (hl : l.stackTraces = false) (hX : am_X p l rX1_giveBack s m args meth c D cy o cX1_giveBack 2 yX1_giveBack.cls none) : ∀ q ∈ tX1_giveBack, am_OK p l e rX1_giveBack s m args below meth c D cy o 2 q.1 q.2 := List.forall_mem_cons.mpr ⟨ok_aln hX (k := 0) (by decide +kernel) rfl, List.forall_mem_cons.mpr ⟨ok_aln hX (k := 1) (by decide +kernel) rfl, List.forall_mem_cons.mpr ⟨ok_gi hX (f := 5) (j := 5) (idx := 25) (C := RX3) (T := TX3) (N := 8) (by decide) rfl rfl rfl (by decide) iw3 tw_115 rfl rfl (by decide +kernel), List.forall_mem_cons.mpr ⟨ok_vV hX (idx := 31) (f := 14) ⟨kX1_release l hl, tw_680, tw_561, tw_65, by decide +kernel, by decide +kernel, by decide⟩ (by decide +kernel) tw_559 tw_560 (by decide) rfl rfl, List.forall_mem_cons.mpr ⟨ok_aln hX (k := 0) (by decide +kernel) rfl, List.forall_mem_cons.mpr ⟨ok_aln hX (k := 1) (by decide +kernel) rfl, List.forall_mem_cons.mpr ⟨ok_gi hX (f := 5) (j := 6) (idx := 35) (C := RX3) (T := TX3) (N := 8) (by decide) rfl rfl rfl (by decide) iw3 tw_118 rfl rfl (by decide +kernel), List.forall_mem_cons.mpr ⟨ok_vV hX (idx := 31) (f := 14) ⟨kX1_release l hl, tw_680, tw_561, tw_65, by decide +kernel, by decide +kernel, by decide⟩ (by decide +kernel) tw_559 tw_560 (by decide) rfl rfl, List.forall_mem_cons.mpr ⟨ok_aln hX (k := 1) (by decide +kernel) rfl, List.forall_mem_cons.mpr ⟨ok_ic hX (n := (-1)) (by decide +kernel) (by decide), List.forall_mem_cons.mpr ⟨ok_pi hX (f := 5) (j := 5) (idx := 25) (C := RX3) (T := TX3) (N := 8) (by decide) rfl rfl rfl (by decide) iw3 tw_115 rfl tyX3 tyX3_ok nmX3 rfl rfl rfl (by decide +kernel), List.forall_mem_cons.mpr ⟨ok_aln hX (k := 1) (by decide +kernel) rfl, List.forall_mem_cons.mpr ⟨ok_ic hX (n := (-1)) (by decide +kernel) (by decide), List.forall_mem_cons.mpr ⟨ok_pi hX (f := 5) (j := 6) (idx := 35) (C := RX3) (T := TX3) (N := 8) (by decide) rfl rfl rfl (by decide) iw3 tw_118 rfl tyX3 tyX3_ok nmX3 rfl rfl rfl (by decide +kernel), List.forall_mem_cons.mpr ⟨ok_rv hX (by decide +kernel) rfl, fun _ h => absurd h List.not_mem_nil⟩⟩⟩⟩⟩⟩⟩⟩⟩⟩⟩⟩⟩⟩⟩
theorem kX1_giveBack (l : Launch) (hl : l.stackTraces = false) : am_Ct l yX1_giveBack cX1_giveBack 2 none rX1_giveBack (am_M tX1_giveBack 2) := am_met hl (by decide +kernel) ⟨rfl, rfl⟩ (fun _ _ _ _ _ _ _ _ _ _ _ hX => hX1_giveBack hl hX)
noncomputable def vX1_giveBack (a1 : Int32) (g : am_S) : am_R := am_E tX1_giveBack (0, [some (.inr (.inr (14, 0))), some (.inr (.inr (5, a1)))], [], g)
theorem eX1_giveBack (a1 : Int32) (g : am_S) : vX1_giveBack a1 g = am_g (am_in a1 128) (am_bV (vX1_release (g 5 a1.toNatClampNeg 5) g) (fun g1 => am_g (am_in a1 128) (am_bV (vX1_release (g1 5 a1.toNatClampNeg 6) g1) (fun g2 => am_g (am_in a1 128) (am_g (am_in a1 128) (some (.inl none, (am_up (am_up g2 5 a1.toNatClampNeg 5 (-1)) 5 a1.toNatClampNeg 6 (-1))))))))) := (am_E_blk lX1_giveBack [] 20 _).trans rfl
noncomputable def tX1_giveBackLost : List (Nat × am_I) := [(0, im_al 0 1), (1, im_al 1 1), (2, im_gi 5 6), (5, im_vI 14 1 (am_M tX1_isGone 2)), (8, im_feq 24), (11, im_al 0 1), (12, im_al 1 1), (13, im_gi 5 6), (16, im_vV 14 1 (am_M tX1_release 2)), (19, im_al 1 1), (20, im_ic (-1) 1), (21, im_pi 5 6), (24, im_al 0 1), (25, im_al 1 1), (26, im_gi 5 5), (29, im_vI 14 1 (am_M tX1_isGone 2)), (32, im_feq 56), (35, im_al 0 1), (36, im_al 1 1), (37, im_gi 5 5), (40, im_vV 14 1 (am_M tX1_release 2)), (43, im_al 1 1), (44, im_al 1 1), (45, im_gi 5 6), (48, im_pi 5 5), (51, im_al 1 1), (52, im_ic (-1) 1), (53, im_pi 5 6), (56, im_rv)]
theorem lX1_giveBackLost : am_linT tX1_giveBackLost := List.forall_mem_cons.mpr ⟨ln_al _ _, List.forall_mem_cons.mpr ⟨ln_al _ _, List.forall_mem_cons.mpr ⟨ln_gi _ _, List.forall_mem_cons.mpr ⟨ln_vI _ _ _, List.forall_mem_cons.mpr ⟨ln_feq _, List.forall_mem_cons.mpr ⟨ln_al _ _, List.forall_mem_cons.mpr ⟨ln_al _ _, List.forall_mem_cons.mpr ⟨ln_gi _ _, List.forall_mem_cons.mpr ⟨ln_vV _ _ _, List.forall_mem_cons.mpr ⟨ln_al _ _, List.forall_mem_cons.mpr ⟨ln_ic _ _, List.forall_mem_cons.mpr ⟨ln_pi _ _, List.forall_mem_cons.mpr ⟨ln_al _ _, List.forall_mem_cons.mpr ⟨ln_al _ _, List.forall_mem_cons.mpr ⟨ln_gi _ _, List.forall_mem_cons.mpr ⟨ln_vI _ _ _, List.forall_mem_cons.mpr ⟨ln_feq _, List.forall_mem_cons.mpr ⟨ln_al _ _, List.forall_mem_cons.mpr ⟨ln_al _ _, List.forall_mem_cons.mpr ⟨ln_gi _ _, List.forall_mem_cons.mpr ⟨ln_vV _ _ _, List.forall_mem_cons.mpr ⟨ln_al _ _, List.forall_mem_cons.mpr ⟨ln_al _ _, List.forall_mem_cons.mpr ⟨ln_gi _ _, List.forall_mem_cons.mpr ⟨ln_pi _ _, List.forall_mem_cons.mpr ⟨ln_al _ _, List.forall_mem_cons.mpr ⟨ln_ic _ _, List.forall_mem_cons.mpr ⟨ln_pi _ _, List.forall_mem_cons.mpr ⟨ln_rv, fun _ h => absurd h List.not_mem_nil⟩⟩⟩⟩⟩⟩⟩⟩⟩⟩⟩⟩⟩⟩⟩⟩⟩⟩⟩⟩⟩⟩⟩⟩⟩⟩⟩⟩⟩
def rX1_giveBackLost : Room := { frames := 1, cells := 1, slots := 6, locals := 21 }
set_option maxRecDepth 100000 in
theorem hX1_giveBackLost {p : Program} {l : Launch} {e : Env} {s : State} {m : MethodId} {args : Array Value} {below : List Frame} {meth : Method} {c : Code} {D : va_G} {cy : Nat → ClassId} {o : Nat} (hl : l.stackTraces = false) (hX : am_X p l rX1_giveBackLost s m args meth c D cy o cX1_giveBackLost 2 yX1_giveBackLost.cls none) : ∀ q ∈ tX1_giveBackLost, am_OK p l e rX1_giveBackLost s m args below meth c D cy o 2 q.1 q.2 := List.forall_mem_cons.mpr ⟨ok_aln hX (k := 0) (by decide +kernel) rfl, List.forall_mem_cons.mpr ⟨ok_aln hX (k := 1) (by decide +kernel) rfl, List.forall_mem_cons.mpr ⟨ok_gi hX (f := 5) (j := 6) (idx := 35) (C := RX3) (T := TX3) (N := 8) (by decide) rfl rfl rfl (by decide) iw3 tw_118 rfl rfl (by decide +kernel), List.forall_mem_cons.mpr ⟨ok_vI hX (idx := 38) (f := 14) ⟨kX1_isGone l hl, tw_679, tw_621, tw_65, by decide +kernel, by decide +kernel, by decide⟩ (by decide +kernel) tw_619 tw_620 (by decide) rfl rfl, List.forall_mem_cons.mpr ⟨ok_feq hX (off := 16) (by decide +kernel) (by decide), List.forall_mem_cons.mpr ⟨ok_aln hX (k := 0) (by decide +kernel) rfl, List.forall_mem_cons.mpr ⟨ok_aln hX (k := 1) (by decide +kernel) rfl, List.forall_mem_cons.mpr ⟨ok_gi hX (f := 5) (j := 6) (idx := 35) (C := RX3) (T := TX3) (N := 8) (by decide) rfl rfl rfl (by decide) iw3 tw_118 rfl rfl (by decide +kernel), List.forall_mem_cons.mpr ⟨ok_vV hX (idx := 31) (f := 14) ⟨kX1_release l hl, tw_680, tw_561, tw_65, by decide +kernel, by decide +kernel, by decide⟩ (by decide +kernel) tw_559 tw_560 (by decide) rfl rfl, List.forall_mem_cons.mpr ⟨ok_aln hX (k := 1) (by decide +kernel) rfl, List.forall_mem_cons.mpr ⟨ok_ic hX (n := (-1)) (by decide +kernel) (by decide), List.forall_mem_cons.mpr ⟨ok_pi hX (f := 5) (j := 6) (idx := 35) (C := RX3) (T := TX3) (N := 8) (by decide) rfl rfl rfl (by decide) iw3 tw_118 rfl tyX3 tyX3_ok nmX3 rfl rfl rfl (by decide +kernel), List.forall_mem_cons.mpr ⟨ok_aln hX (k := 0) (by decide +kernel) rfl, List.forall_mem_cons.mpr ⟨ok_aln hX (k := 1) (by decide +kernel) rfl, List.forall_mem_cons.mpr ⟨ok_gi hX (f := 5) (j := 5) (idx := 25) (C := RX3) (T := TX3) (N := 8) (by decide) rfl rfl rfl (by decide) iw3 tw_115 rfl rfl (by decide +kernel), List.forall_mem_cons.mpr ⟨ok_vI hX (idx := 38) (f := 14) ⟨kX1_isGone l hl, tw_679, tw_621, tw_65, by decide +kernel, by decide +kernel, by decide⟩ (by decide +kernel) tw_619 tw_620 (by decide) rfl rfl, List.forall_mem_cons.mpr ⟨ok_feq hX (off := 24) (by decide +kernel) (by decide), List.forall_mem_cons.mpr ⟨ok_aln hX (k := 0) (by decide +kernel) rfl, List.forall_mem_cons.mpr ⟨ok_aln hX (k := 1) (by decide +kernel) rfl, List.forall_mem_cons.mpr ⟨ok_gi hX (f := 5) (j := 5) (idx := 25) (C := RX3) (T := TX3) (N := 8) (by decide) rfl rfl rfl (by decide) iw3 tw_115 rfl rfl (by decide +kernel), List.forall_mem_cons.mpr ⟨ok_vV hX (idx := 31) (f := 14) ⟨kX1_release l hl, tw_680, tw_561, tw_65, by decide +kernel, by decide +kernel, by decide⟩ (by decide +kernel) tw_559 tw_560 (by decide) rfl rfl, List.forall_mem_cons.mpr ⟨ok_aln hX (k := 1) (by decide +kernel) rfl, List.forall_mem_cons.mpr ⟨ok_aln hX (k := 1) (by decide +kernel) rfl, List.forall_mem_cons.mpr ⟨ok_gi hX (f := 5) (j := 6) (idx := 35) (C := RX3) (T := TX3) (N := 8) (by decide) rfl rfl rfl (by decide) iw3 tw_118 rfl rfl (by decide +kernel), List.forall_mem_cons.mpr ⟨ok_pi hX (f := 5) (j := 5) (idx := 25) (C := RX3) (T := TX3) (N := 8) (by decide) rfl rfl rfl (by decide) iw3 tw_115 rfl tyX3 tyX3_ok nmX3 rfl rfl rfl (by decide +kernel), List.forall_mem_cons.mpr ⟨ok_aln hX (k := 1) (by decide +kernel) rfl, List.forall_mem_cons.mpr ⟨ok_ic hX (n := (-1)) (by decide +kernel) (by decide), List.forall_mem_cons.mpr ⟨ok_pi hX (f := 5) (j := 6) (idx := 35) (C := RX3) (T := TX3) (N := 8) (by decide) rfl rfl rfl (by decide) iw3 tw_118 rfl tyX3 tyX3_ok nmX3 rfl rfl rfl (by decide +kernel), List.forall_mem_cons.mpr ⟨ok_rv hX (by decide +kernel) rfl, fun _ h => absurd h List.not_mem_nil⟩⟩⟩⟩⟩⟩⟩⟩⟩⟩⟩⟩⟩⟩⟩⟩⟩⟩⟩⟩⟩⟩⟩⟩⟩⟩⟩⟩⟩
theorem kX1_giveBackLost (l : Launch) (hl : l.stackTraces = false) : am_Ct l yX1_giveBackLost cX1_giveBackLost 2 none rX1_giveBackLost (am_M tX1_giveBackLost 2) := am_met hl (by decide +kernel) ⟨rfl, rfl⟩ (fun _ _ _ _ _ _ _ _ _ _ _ hX => hX1_giveBackLost hl hX)
noncomputable def vX1_giveBackLost (a1 : Int32) (g : am_S) : am_R := am_E tX1_giveBackLost (0, [some (.inr (.inr (14, 0))), some (.inr (.inr (5, a1)))], [], g)
noncomputable def vX1_giveBackLost_24 (a1 : Int32) (g : am_S) : am_R := am_E tX1_giveBackLost (24, [some (.inr (.inr (14, 0))), some (.inr (.inr (5, a1)))], [], g)
theorem eX1_giveBackLost (a1 : Int32) (g : am_S) : vX1_giveBackLost a1 g = am_g (am_in a1 128) (am_bI (vX1_isGone (g 5 a1.toNatClampNeg 6) g) (fun r2 g1 => if r2 = 0 then (vX1_giveBackLost_24 a1 g1) else am_g (am_in a1 128) (am_bV (vX1_release (g1 5 a1.toNatClampNeg 6) g1) (fun g3 => am_g (am_in a1 128) (vX1_giveBackLost_24 a1 (am_up g3 5 a1.toNatClampNeg 6 (-1))))))) := (am_E_blk lX1_giveBackLost [24] 34 _).trans rfl
theorem eX1_giveBackLost_24 (a1 : Int32) (g : am_S) : vX1_giveBackLost_24 a1 g = am_g (am_in a1 128) (am_bI (vX1_isGone (g 5 a1.toNatClampNeg 5) g) (fun r2 g1 => if r2 = 0 then (some (.inl none, g1)) else am_g (am_in a1 128) (am_bV (vX1_release (g1 5 a1.toNatClampNeg 5) g1) (fun g3 => am_g (am_in a1 128) (am_g (am_in a1 128) (am_g (am_in a1 128) (some (.inl none, (am_up (am_up g3 5 a1.toNatClampNeg 5 (g3 5 a1.toNatClampNeg 6)) 5 a1.toNatClampNeg 6 (-1)))))))))) := (am_E_blk lX1_giveBackLost [24] 34 _).trans rfl
noncomputable def tX1_clearClaims : List (Nat × am_I) := [(0, im_ic 0 1), (1, im_is 1 1), (2, im_il 1 1), (3, im_ic 24 2), (5, im_cge 21), (8, im_al 0 1), (9, im_gf 14 3 18), (12, im_il 1 1), (13, im_ic 0 1), (14, im_si), (15, im_in 1 1), (18, im_go 2), (21, im_rv)]
theorem lX1_clearClaims : am_linT tX1_clearClaims := List.forall_mem_cons.mpr ⟨ln_ic _ _, List.forall_mem_cons.mpr ⟨ln_is _ _, List.forall_mem_cons.mpr ⟨ln_il _ _, List.forall_mem_cons.mpr ⟨ln_ic _ _, List.forall_mem_cons.mpr ⟨ln_cge _, List.forall_mem_cons.mpr ⟨ln_al _ _, List.forall_mem_cons.mpr ⟨ln_gf 14 3 18, List.forall_mem_cons.mpr ⟨ln_il _ _, List.forall_mem_cons.mpr ⟨ln_ic _ _, List.forall_mem_cons.mpr ⟨ln_si, List.forall_mem_cons.mpr ⟨ln_in _ _, List.forall_mem_cons.mpr ⟨ln_go _, List.forall_mem_cons.mpr ⟨ln_rv, fun _ h => absurd h List.not_mem_nil⟩⟩⟩⟩⟩⟩⟩⟩⟩⟩⟩⟩⟩
def rX1_clearClaims : Room := { frames := 0, cells := 1, slots := 6, locals := 0 }
set_option maxRecDepth 100000 in
theorem hX1_clearClaims {p : Program} {l : Launch} {e : Env} {s : State} {m : MethodId} {args : Array Value} {below : List Frame} {meth : Method} {c : Code} {D : va_G} {cy : Nat → ClassId} {o : Nat} (hl : l.stackTraces = false) (hX : am_X p l rX1_clearClaims s m args meth c D cy o cX1_clearClaims 2 yX1_clearClaims.cls none) : ∀ q ∈ tX1_clearClaims, am_OK p l e rX1_clearClaims s m args below meth c D cy o 2 q.1 q.2 := List.forall_mem_cons.mpr ⟨ok_ic hX (n := 0) (by decide +kernel) (by decide), List.forall_mem_cons.mpr ⟨ok_isn hX (k := 1) (by decide +kernel) rfl (by decide), List.forall_mem_cons.mpr ⟨ok_iln hX (k := 1) (by decide +kernel) rfl, List.forall_mem_cons.mpr ⟨ok_bi hX (n := 24) (by decide +kernel) (by decide), List.forall_mem_cons.mpr ⟨ok_cge hX (off := 16) (by decide +kernel) (by decide), List.forall_mem_cons.mpr ⟨ok_aln hX (k := 0) (by decide +kernel) rfl, List.forall_mem_cons.mpr ⟨ok_gf hX (f := 14) (j := 3) (idx := 22) (C := RX1) (T := TX1) (N := 4) (by decide) rfl rfl rfl (by decide) iw1 tw_206 rfl rfl rfl (by decide +kernel), List.forall_mem_cons.mpr ⟨ok_iln hX (k := 1) (by decide +kernel) rfl, List.forall_mem_cons.mpr ⟨ok_ic hX (n := 0) (by decide +kernel) (by decide), List.forall_mem_cons.mpr ⟨ok_ast hX (by decide +kernel), List.forall_mem_cons.mpr ⟨ok_in hX (n := 1) (by decide +kernel) (by decide) (by decide), List.forall_mem_cons.mpr ⟨ok_go hX (off := (-16)) (by decide +kernel) (by decide), List.forall_mem_cons.mpr ⟨ok_rv hX (by decide +kernel) rfl, fun _ h => absurd h List.not_mem_nil⟩⟩⟩⟩⟩⟩⟩⟩⟩⟩⟩⟩⟩
theorem kX1_clearClaims (l : Launch) (hl : l.stackTraces = false) : am_Ct l yX1_clearClaims cX1_clearClaims 2 none rX1_clearClaims (am_M tX1_clearClaims 2) := am_met hl (by decide +kernel) ⟨rfl, rfl⟩ (fun _ _ _ _ _ _ _ _ _ _ _ hX => hX1_clearClaims hl hX)
noncomputable def vX1_clearClaims (g : am_S) : am_R := am_E tX1_clearClaims (0, [some (.inr (.inr (14, 0))), none], [], g)
noncomputable def vX1_clearClaims_2 (a1 : Int32) (g : am_S) : am_R := am_E tX1_clearClaims (2, [some (.inr (.inr (14, 0))), some (.inl a1)], [], g)
theorem eX1_clearClaims (g : am_S) : vX1_clearClaims g = vX1_clearClaims_2 0 g := (am_E_blk lX1_clearClaims [2] 18 _).trans rfl
theorem eX1_clearClaims_2 (a1 : Int32) (g : am_S) : vX1_clearClaims_2 a1 g = if 24 ≤ a1 then (some (.inl none, g)) else am_g (am_in a1 24) (vX1_clearClaims_2 (a1 + 1) (am_up g 18 0 a1.toNatClampNeg 0)) := (am_E_blk lX1_clearClaims [2] 18 _).trans rfl
noncomputable def tX1_claim : List (Nat × am_I) := [(0, im_il 1 1), (1, im_flt 20), (4, im_il 1 1), (5, im_ic 24 2), (7, im_cge 20), (10, im_al 0 1), (11, im_gf 14 3 18), (14, im_il 1 1), (15, im_d2), (16, im_ia), (17, im_ic 1 1), (18, im_add), (19, im_si), (20, im_rv)]
theorem lX1_claim : am_linT tX1_claim := List.forall_mem_cons.mpr ⟨ln_il _ _, List.forall_mem_cons.mpr ⟨ln_flt _, List.forall_mem_cons.mpr ⟨ln_il _ _, List.forall_mem_cons.mpr ⟨ln_ic _ _, List.forall_mem_cons.mpr ⟨ln_cge _, List.forall_mem_cons.mpr ⟨ln_al _ _, List.forall_mem_cons.mpr ⟨ln_gf 14 3 18, List.forall_mem_cons.mpr ⟨ln_il _ _, List.forall_mem_cons.mpr ⟨ln_d2, List.forall_mem_cons.mpr ⟨ln_ia, List.forall_mem_cons.mpr ⟨ln_ic _ _, List.forall_mem_cons.mpr ⟨ln_add, List.forall_mem_cons.mpr ⟨ln_si, List.forall_mem_cons.mpr ⟨ln_rv, fun _ h => absurd h List.not_mem_nil⟩⟩⟩⟩⟩⟩⟩⟩⟩⟩⟩⟩⟩⟩
def rX1_claim : Room := { frames := 0, cells := 1, slots := 6, locals := 0 }
set_option maxRecDepth 100000 in
theorem hX1_claim {p : Program} {l : Launch} {e : Env} {s : State} {m : MethodId} {args : Array Value} {below : List Frame} {meth : Method} {c : Code} {D : va_G} {cy : Nat → ClassId} {o : Nat} (hl : l.stackTraces = false) (hX : am_X p l rX1_claim s m args meth c D cy o cX1_claim 2 yX1_claim.cls none) : ∀ q ∈ tX1_claim, am_OK p l e rX1_claim s m args below meth c D cy o 2 q.1 q.2 := List.forall_mem_cons.mpr ⟨ok_iln hX (k := 1) (by decide +kernel) rfl, List.forall_mem_cons.mpr ⟨ok_flt hX (off := 19) (by decide +kernel) (by decide), List.forall_mem_cons.mpr ⟨ok_iln hX (k := 1) (by decide +kernel) rfl, List.forall_mem_cons.mpr ⟨ok_bi hX (n := 24) (by decide +kernel) (by decide), List.forall_mem_cons.mpr ⟨ok_cge hX (off := 13) (by decide +kernel) (by decide), List.forall_mem_cons.mpr ⟨ok_aln hX (k := 0) (by decide +kernel) rfl, List.forall_mem_cons.mpr ⟨ok_gf hX (f := 14) (j := 3) (idx := 22) (C := RX1) (T := TX1) (N := 4) (by decide) rfl rfl rfl (by decide) iw1 tw_206 rfl rfl rfl (by decide +kernel), List.forall_mem_cons.mpr ⟨ok_iln hX (k := 1) (by decide +kernel) rfl, List.forall_mem_cons.mpr ⟨ok_d2 hX (by decide +kernel), List.forall_mem_cons.mpr ⟨ok_ia hX (by decide +kernel), List.forall_mem_cons.mpr ⟨ok_ic hX (n := 1) (by decide +kernel) (by decide), List.forall_mem_cons.mpr ⟨ok_add hX (by decide +kernel), List.forall_mem_cons.mpr ⟨ok_ast hX (by decide +kernel), List.forall_mem_cons.mpr ⟨ok_rv hX (by decide +kernel) rfl, fun _ h => absurd h List.not_mem_nil⟩⟩⟩⟩⟩⟩⟩⟩⟩⟩⟩⟩⟩⟩
theorem kX1_claim (l : Launch) (hl : l.stackTraces = false) : am_Ct l yX1_claim cX1_claim 2 none rX1_claim (am_M tX1_claim 2) := am_met hl (by decide +kernel) ⟨rfl, rfl⟩ (fun _ _ _ _ _ _ _ _ _ _ _ hX => hX1_claim hl hX)
noncomputable def vX1_claim (a1 : Int32) (g : am_S) : am_R := am_E tX1_claim (0, [some (.inr (.inr (14, 0))), some (.inl a1)], [], g)
theorem eX1_claim (a1 : Int32) (g : am_S) : vX1_claim a1 g = if a1 < 0 then (some (.inl none, g)) else if 24 ≤ a1 then (some (.inl none, g)) else am_g (am_in a1 24) (am_g (am_in a1 24) (some (.inl none, (am_up g 18 0 a1.toNatClampNeg ((g 18 0 a1.toNatClampNeg) + 1))))) := (am_E_blk lX1_claim [] 19 _).trans rfl
noncomputable def tX1_wrongClaims : List (Nat × am_I) := [(0, im_ic 0 1), (1, im_is 1 1), (2, im_ic 0 1), (3, im_is 2 1), (4, im_il 2 1), (5, im_ic 24 2), (7, im_cge 43), (10, im_al 0 1), (11, im_gf 14 3 18), (14, im_il 2 1), (15, im_ia), (16, im_al 0 1), (17, im_gf 14 0 15), (20, im_il 2 1), (21, im_ia), (22, im_ic 1 1), (23, im_cne 30), (26, im_ic 1 1), (27, im_go 31), (30, im_ic 0 1), (31, im_ceq 37), (34, im_in 1 1), (37, im_in 2 1), (40, im_go 4), (43, im_il 1 1), (44, im_ri)]
theorem lX1_wrongClaims : am_linT tX1_wrongClaims := List.forall_mem_cons.mpr ⟨ln_ic _ _, List.forall_mem_cons.mpr ⟨ln_is _ _, List.forall_mem_cons.mpr ⟨ln_ic _ _, List.forall_mem_cons.mpr ⟨ln_is _ _, List.forall_mem_cons.mpr ⟨ln_il _ _, List.forall_mem_cons.mpr ⟨ln_ic _ _, List.forall_mem_cons.mpr ⟨ln_cge _, List.forall_mem_cons.mpr ⟨ln_al _ _, List.forall_mem_cons.mpr ⟨ln_gf 14 3 18, List.forall_mem_cons.mpr ⟨ln_il _ _, List.forall_mem_cons.mpr ⟨ln_ia, List.forall_mem_cons.mpr ⟨ln_al _ _, List.forall_mem_cons.mpr ⟨ln_gf 14 0 15, List.forall_mem_cons.mpr ⟨ln_il _ _, List.forall_mem_cons.mpr ⟨ln_ia, List.forall_mem_cons.mpr ⟨ln_ic _ _, List.forall_mem_cons.mpr ⟨ln_cne _, List.forall_mem_cons.mpr ⟨ln_ic _ _, List.forall_mem_cons.mpr ⟨ln_go _, List.forall_mem_cons.mpr ⟨ln_ic _ _, List.forall_mem_cons.mpr ⟨ln_ceq _, List.forall_mem_cons.mpr ⟨ln_in _ _, List.forall_mem_cons.mpr ⟨ln_in _ _, List.forall_mem_cons.mpr ⟨ln_go _, List.forall_mem_cons.mpr ⟨ln_il _ _, List.forall_mem_cons.mpr ⟨ln_ri, fun _ h => absurd h List.not_mem_nil⟩⟩⟩⟩⟩⟩⟩⟩⟩⟩⟩⟩⟩⟩⟩⟩⟩⟩⟩⟩⟩⟩⟩⟩⟩⟩
def rX1_wrongClaims : Room := { frames := 0, cells := 1, slots := 6, locals := 0 }
set_option maxRecDepth 100000 in
theorem hX1_wrongClaims {p : Program} {l : Launch} {e : Env} {s : State} {m : MethodId} {args : Array Value} {below : List Frame} {meth : Method} {c : Code} {D : va_G} {cy : Nat → ClassId} {o : Nat} (hl : l.stackTraces = false) (hX : am_X p l rX1_wrongClaims s m args meth c D cy o cX1_wrongClaims 3 yX1_wrongClaims.cls (some .int)) : ∀ q ∈ tX1_wrongClaims, am_OK p l e rX1_wrongClaims s m args below meth c D cy o 3 q.1 q.2 := List.forall_mem_cons.mpr ⟨ok_ic hX (n := 0) (by decide +kernel) (by decide), List.forall_mem_cons.mpr ⟨ok_isn hX (k := 1) (by decide +kernel) rfl (by decide), List.forall_mem_cons.mpr ⟨ok_ic hX (n := 0) (by decide +kernel) (by decide), List.forall_mem_cons.mpr ⟨ok_isn hX (k := 2) (by decide +kernel) rfl (by decide), List.forall_mem_cons.mpr ⟨ok_iln hX (k := 2) (by decide +kernel) rfl, List.forall_mem_cons.mpr ⟨ok_bi hX (n := 24) (by decide +kernel) (by decide), List.forall_mem_cons.mpr ⟨ok_cge hX (off := 36) (by decide +kernel) (by decide), List.forall_mem_cons.mpr ⟨ok_aln hX (k := 0) (by decide +kernel) rfl, List.forall_mem_cons.mpr ⟨ok_gf hX (f := 14) (j := 3) (idx := 22) (C := RX1) (T := TX1) (N := 4) (by decide) rfl rfl rfl (by decide) iw1 tw_206 rfl rfl rfl (by decide +kernel), List.forall_mem_cons.mpr ⟨ok_iln hX (k := 2) (by decide +kernel) rfl, List.forall_mem_cons.mpr ⟨ok_ia hX (by decide +kernel), List.forall_mem_cons.mpr ⟨ok_aln hX (k := 0) (by decide +kernel) rfl, List.forall_mem_cons.mpr ⟨ok_gf hX (f := 14) (j := 0) (idx := 9) (C := RX1) (T := TX1) (N := 4) (by decide) rfl rfl rfl (by decide) iw1 tw_200 rfl rfl rfl (by decide +kernel), List.forall_mem_cons.mpr ⟨ok_iln hX (k := 2) (by decide +kernel) rfl, List.forall_mem_cons.mpr ⟨ok_ia hX (by decide +kernel), List.forall_mem_cons.mpr ⟨ok_ic hX (n := 1) (by decide +kernel) (by decide), List.forall_mem_cons.mpr ⟨ok_cne hX (off := 7) (by decide +kernel) (by decide), List.forall_mem_cons.mpr ⟨ok_ic hX (n := 1) (by decide +kernel) (by decide), List.forall_mem_cons.mpr ⟨ok_go hX (off := 4) (by decide +kernel) (by decide), List.forall_mem_cons.mpr ⟨ok_ic hX (n := 0) (by decide +kernel) (by decide), List.forall_mem_cons.mpr ⟨ok_ceq hX (off := 6) (by decide +kernel) (by decide), List.forall_mem_cons.mpr ⟨ok_in hX (n := 1) (by decide +kernel) (by decide) (by decide), List.forall_mem_cons.mpr ⟨ok_in hX (n := 1) (by decide +kernel) (by decide) (by decide), List.forall_mem_cons.mpr ⟨ok_go hX (off := (-36)) (by decide +kernel) (by decide), List.forall_mem_cons.mpr ⟨ok_iln hX (k := 1) (by decide +kernel) rfl, List.forall_mem_cons.mpr ⟨ok_ri hX (by decide +kernel) rfl, fun _ h => absurd h List.not_mem_nil⟩⟩⟩⟩⟩⟩⟩⟩⟩⟩⟩⟩⟩⟩⟩⟩⟩⟩⟩⟩⟩⟩⟩⟩⟩⟩
theorem kX1_wrongClaims (l : Launch) (hl : l.stackTraces = false) : am_Ct l yX1_wrongClaims cX1_wrongClaims 3 (some .int) rX1_wrongClaims (am_M tX1_wrongClaims 3) := am_met hl (by decide +kernel) ⟨rfl, rfl⟩ (fun _ _ _ _ _ _ _ _ _ _ _ hX => hX1_wrongClaims hl hX)
noncomputable def vX1_wrongClaims (g : am_S) : am_R := am_E tX1_wrongClaims (0, [some (.inr (.inr (14, 0))), none, none], [], g)
noncomputable def vX1_wrongClaims_4 (a1 : Int32) (a2 : Int32) (g : am_S) : am_R := am_E tX1_wrongClaims (4, [some (.inr (.inr (14, 0))), some (.inl a1), some (.inl a2)], [], g)
theorem eX1_wrongClaims (g : am_S) : vX1_wrongClaims g = vX1_wrongClaims_4 0 0 g := (am_E_blk lX1_wrongClaims [4] 31 _).trans rfl
theorem eX1_wrongClaims_4 (a1 : Int32) (a2 : Int32) (g : am_S) : vX1_wrongClaims_4 a1 a2 g = if 24 ≤ a2 then (some (.inl (some (.inl a1)), g)) else am_g (am_in a2 24) (am_g (am_in a2 24) (if (g 15 0 a2.toNatClampNeg) = 1 then (if (g 18 0 a2.toNatClampNeg) = 1 then (vX1_wrongClaims_4 a1 (a2 + 1) g) else vX1_wrongClaims_4 (a1 + 1) (a2 + 1) g) else if (g 18 0 a2.toNatClampNeg) = 0 then (vX1_wrongClaims_4 a1 (a2 + 1) g) else vX1_wrongClaims_4 (a1 + 1) (a2 + 1) g)) := (am_E_blk lX1_wrongClaims [4] 31 _).trans rfl
noncomputable def tX2_vacant : List (Nat × am_I) := [(0, im_ic 0 1), (1, im_is 1 1), (2, im_ic 0 1), (3, im_is 2 1), (4, im_il 2 1), (5, im_ic 10 2), (7, im_cge 28), (10, im_al 0 1), (11, im_gf 7 0 8), (14, im_il 2 1), (15, im_aa), (16, im_nn 22), (19, im_in 1 1), (22, im_in 2 1), (25, im_go 4), (28, im_il 1 1), (29, im_ri)]
theorem lX2_vacant : am_linT tX2_vacant := List.forall_mem_cons.mpr ⟨ln_ic _ _, List.forall_mem_cons.mpr ⟨ln_is _ _, List.forall_mem_cons.mpr ⟨ln_ic _ _, List.forall_mem_cons.mpr ⟨ln_is _ _, List.forall_mem_cons.mpr ⟨ln_il _ _, List.forall_mem_cons.mpr ⟨ln_ic _ _, List.forall_mem_cons.mpr ⟨ln_cge _, List.forall_mem_cons.mpr ⟨ln_al _ _, List.forall_mem_cons.mpr ⟨ln_gf 7 0 8, List.forall_mem_cons.mpr ⟨ln_il _ _, List.forall_mem_cons.mpr ⟨ln_aa, List.forall_mem_cons.mpr ⟨ln_nn _, List.forall_mem_cons.mpr ⟨ln_in _ _, List.forall_mem_cons.mpr ⟨ln_in _ _, List.forall_mem_cons.mpr ⟨ln_go _, List.forall_mem_cons.mpr ⟨ln_il _ _, List.forall_mem_cons.mpr ⟨ln_ri, fun _ h => absurd h List.not_mem_nil⟩⟩⟩⟩⟩⟩⟩⟩⟩⟩⟩⟩⟩⟩⟩⟩⟩
def rX2_vacant : Room := { frames := 0, cells := 1, slots := 6, locals := 0 }
set_option maxRecDepth 100000 in
theorem hX2_vacant {p : Program} {l : Launch} {e : Env} {s : State} {m : MethodId} {args : Array Value} {below : List Frame} {meth : Method} {c : Code} {D : va_G} {cy : Nat → ClassId} {o : Nat} (hl : l.stackTraces = false) (hX : am_X p l rX2_vacant s m args meth c D cy o cX2_vacant 3 yX2_vacant.cls (some .int)) : ∀ q ∈ tX2_vacant, am_OK p l e rX2_vacant s m args below meth c D cy o 3 q.1 q.2 := List.forall_mem_cons.mpr ⟨ok_ic hX (n := 0) (by decide +kernel) (by decide), List.forall_mem_cons.mpr ⟨ok_isn hX (k := 1) (by decide +kernel) rfl (by decide), List.forall_mem_cons.mpr ⟨ok_ic hX (n := 0) (by decide +kernel) (by decide), List.forall_mem_cons.mpr ⟨ok_isn hX (k := 2) (by decide +kernel) rfl (by decide), List.forall_mem_cons.mpr ⟨ok_iln hX (k := 2) (by decide +kernel) rfl, List.forall_mem_cons.mpr ⟨ok_bi hX (n := 10) (by decide +kernel) (by decide), List.forall_mem_cons.mpr ⟨ok_cge hX (off := 21) (by decide +kernel) (by decide), List.forall_mem_cons.mpr ⟨ok_aln hX (k := 0) (by decide +kernel) rfl, List.forall_mem_cons.mpr ⟨ok_gf hX (f := 7) (j := 0) (idx := 11) (C := RX2) (T := TX2) (N := 4) (by decide) rfl rfl rfl (by decide) iw2 tw_159 rfl rfl rfl (by decide +kernel), List.forall_mem_cons.mpr ⟨ok_iln hX (k := 2) (by decide +kernel) rfl, List.forall_mem_cons.mpr ⟨ok_aa hX (by decide +kernel), List.forall_mem_cons.mpr ⟨ok_nn hX (off := 6) (by decide +kernel) (by decide), List.forall_mem_cons.mpr ⟨ok_in hX (n := 1) (by decide +kernel) (by decide) (by decide), List.forall_mem_cons.mpr ⟨ok_in hX (n := 1) (by decide +kernel) (by decide) (by decide), List.forall_mem_cons.mpr ⟨ok_go hX (off := (-21)) (by decide +kernel) (by decide), List.forall_mem_cons.mpr ⟨ok_iln hX (k := 1) (by decide +kernel) rfl, List.forall_mem_cons.mpr ⟨ok_ri hX (by decide +kernel) rfl, fun _ h => absurd h List.not_mem_nil⟩⟩⟩⟩⟩⟩⟩⟩⟩⟩⟩⟩⟩⟩⟩⟩⟩
theorem kX2_vacant (l : Launch) (hl : l.stackTraces = false) : am_Ct l yX2_vacant cX2_vacant 3 (some .int) rX2_vacant (am_M tX2_vacant 3) := am_met hl (by decide +kernel) ⟨rfl, rfl⟩ (fun _ _ _ _ _ _ _ _ _ _ _ hX => hX2_vacant hl hX)
noncomputable def vX2_vacant (g : am_S) : am_R := am_E tX2_vacant (0, [some (.inr (.inr (7, 0))), none, none], [], g)
noncomputable def vX2_vacant_4 (a1 : Int32) (a2 : Int32) (g : am_S) : am_R := am_E tX2_vacant (4, [some (.inr (.inr (7, 0))), some (.inl a1), some (.inl a2)], [], g)
theorem eX2_vacant (g : am_S) : vX2_vacant g = vX2_vacant_4 0 0 g := (am_E_blk lX2_vacant [4] 22 _).trans rfl
theorem eX2_vacant_4 (a1 : Int32) (a2 : Int32) (g : am_S) : vX2_vacant_4 a1 a2 g = if 10 ≤ a2 then (some (.inl (some (.inl a1)), g)) else am_g (am_in a2 10) (if (g 8 0 a2.toNatClampNeg) < 0 then (vX2_vacant_4 (a1 + 1) (a2 + 1) g) else vX2_vacant_4 a1 (a2 + 1) g) := (am_E_blk lX2_vacant [4] 22 _).trans rfl
noncomputable def tX2_lowestVacant : List (Nat × am_I) := [(0, im_ic 0 1), (1, im_is 1 1), (2, im_il 1 1), (3, im_ic 10 2), (5, im_cge 25), (8, im_al 0 1), (9, im_gf 7 0 8), (12, im_il 1 1), (13, im_aa), (14, im_nn 19), (17, im_il 1 1), (18, im_ri), (19, im_in 1 1), (22, im_go 2), (25, im_ic (-1) 1), (26, im_ri)]
theorem lX2_lowestVacant : am_linT tX2_lowestVacant := List.forall_mem_cons.mpr ⟨ln_ic _ _, List.forall_mem_cons.mpr ⟨ln_is _ _, List.forall_mem_cons.mpr ⟨ln_il _ _, List.forall_mem_cons.mpr ⟨ln_ic _ _, List.forall_mem_cons.mpr ⟨ln_cge _, List.forall_mem_cons.mpr ⟨ln_al _ _, List.forall_mem_cons.mpr ⟨ln_gf 7 0 8, List.forall_mem_cons.mpr ⟨ln_il _ _, List.forall_mem_cons.mpr ⟨ln_aa, List.forall_mem_cons.mpr ⟨ln_nn _, List.forall_mem_cons.mpr ⟨ln_il _ _, List.forall_mem_cons.mpr ⟨ln_ri, List.forall_mem_cons.mpr ⟨ln_in _ _, List.forall_mem_cons.mpr ⟨ln_go _, List.forall_mem_cons.mpr ⟨ln_ic _ _, List.forall_mem_cons.mpr ⟨ln_ri, fun _ h => absurd h List.not_mem_nil⟩⟩⟩⟩⟩⟩⟩⟩⟩⟩⟩⟩⟩⟩⟩⟩
def rX2_lowestVacant : Room := { frames := 0, cells := 1, slots := 6, locals := 0 }
set_option maxRecDepth 100000 in
theorem hX2_lowestVacant {p : Program} {l : Launch} {e : Env} {s : State} {m : MethodId} {args : Array Value} {below : List Frame} {meth : Method} {c : Code} {D : va_G} {cy : Nat → ClassId} {o : Nat} (hl : l.stackTraces = false) (hX : am_X p l rX2_lowestVacant s m args meth c D cy o cX2_lowestVacant 2 yX2_lowestVacant.cls (some .int)) : ∀ q ∈ tX2_lowestVacant, am_OK p l e rX2_lowestVacant s m args below meth c D cy o 2 q.1 q.2 := List.forall_mem_cons.mpr ⟨ok_ic hX (n := 0) (by decide +kernel) (by decide), List.forall_mem_cons.mpr ⟨ok_isn hX (k := 1) (by decide +kernel) rfl (by decide), List.forall_mem_cons.mpr ⟨ok_iln hX (k := 1) (by decide +kernel) rfl, List.forall_mem_cons.mpr ⟨ok_bi hX (n := 10) (by decide +kernel) (by decide), List.forall_mem_cons.mpr ⟨ok_cge hX (off := 20) (by decide +kernel) (by decide), List.forall_mem_cons.mpr ⟨ok_aln hX (k := 0) (by decide +kernel) rfl, List.forall_mem_cons.mpr ⟨ok_gf hX (f := 7) (j := 0) (idx := 11) (C := RX2) (T := TX2) (N := 4) (by decide) rfl rfl rfl (by decide) iw2 tw_159 rfl rfl rfl (by decide +kernel), List.forall_mem_cons.mpr ⟨ok_iln hX (k := 1) (by decide +kernel) rfl, List.forall_mem_cons.mpr ⟨ok_aa hX (by decide +kernel), List.forall_mem_cons.mpr ⟨ok_nn hX (off := 5) (by decide +kernel) (by decide), List.forall_mem_cons.mpr ⟨ok_iln hX (k := 1) (by decide +kernel) rfl, List.forall_mem_cons.mpr ⟨ok_ri hX (by decide +kernel) rfl, List.forall_mem_cons.mpr ⟨ok_in hX (n := 1) (by decide +kernel) (by decide) (by decide), List.forall_mem_cons.mpr ⟨ok_go hX (off := (-20)) (by decide +kernel) (by decide), List.forall_mem_cons.mpr ⟨ok_ic hX (n := (-1)) (by decide +kernel) (by decide), List.forall_mem_cons.mpr ⟨ok_ri hX (by decide +kernel) rfl, fun _ h => absurd h List.not_mem_nil⟩⟩⟩⟩⟩⟩⟩⟩⟩⟩⟩⟩⟩⟩⟩⟩
theorem kX2_lowestVacant (l : Launch) (hl : l.stackTraces = false) : am_Ct l yX2_lowestVacant cX2_lowestVacant 2 (some .int) rX2_lowestVacant (am_M tX2_lowestVacant 2) := am_met hl (by decide +kernel) ⟨rfl, rfl⟩ (fun _ _ _ _ _ _ _ _ _ _ _ hX => hX2_lowestVacant hl hX)
noncomputable def vX2_lowestVacant (g : am_S) : am_R := am_E tX2_lowestVacant (0, [some (.inr (.inr (7, 0))), none], [], g)
noncomputable def vX2_lowestVacant_2 (a1 : Int32) (g : am_S) : am_R := am_E tX2_lowestVacant (2, [some (.inr (.inr (7, 0))), some (.inl a1)], [], g)
theorem eX2_lowestVacant (g : am_S) : vX2_lowestVacant g = vX2_lowestVacant_2 0 g := (am_E_blk lX2_lowestVacant [2] 21 _).trans rfl
theorem eX2_lowestVacant_2 (a1 : Int32) (g : am_S) : vX2_lowestVacant_2 a1 g = if 10 ≤ a1 then (some (.inl (some (.inl (-1))), g)) else am_g (am_in a1 10) (if (g 8 0 a1.toNatClampNeg) < 0 then (some (.inl (some (.inl a1)), g)) else vX2_lowestVacant_2 (a1 + 1) g) := (am_E_blk lX2_lowestVacant [2] 21 _).trans rfl
noncomputable def tX2_seat : List (Nat × am_I) := [(0, im_il 2 1), (1, im_flt 10), (4, im_il 2 1), (5, im_ic 10 2), (7, im_clt 11), (10, im_rv), (11, im_al 0 1), (12, im_gf 7 0 8), (15, im_il 2 1), (16, im_al 1 1), (17, im_sa), (18, im_al 0 1), (19, im_gf 7 1 9), (22, im_il 2 1), (23, im_ic 1 1), (24, im_sb), (25, im_al 0 1), (26, im_gf 7 2 10), (29, im_il 2 1), (30, im_ic 0 1), (31, im_sb), (32, im_al 1 1), (33, im_ic 1 1), (34, im_pi 5 2), (37, im_al 1 1), (38, im_il 2 1), (39, im_pi 5 3), (42, im_rv)]
theorem lX2_seat : am_linT tX2_seat := List.forall_mem_cons.mpr ⟨ln_il _ _, List.forall_mem_cons.mpr ⟨ln_flt _, List.forall_mem_cons.mpr ⟨ln_il _ _, List.forall_mem_cons.mpr ⟨ln_ic _ _, List.forall_mem_cons.mpr ⟨ln_clt _, List.forall_mem_cons.mpr ⟨ln_rv, List.forall_mem_cons.mpr ⟨ln_al _ _, List.forall_mem_cons.mpr ⟨ln_gf 7 0 8, List.forall_mem_cons.mpr ⟨ln_il _ _, List.forall_mem_cons.mpr ⟨ln_al _ _, List.forall_mem_cons.mpr ⟨ln_sa, List.forall_mem_cons.mpr ⟨ln_al _ _, List.forall_mem_cons.mpr ⟨ln_gf 7 1 9, List.forall_mem_cons.mpr ⟨ln_il _ _, List.forall_mem_cons.mpr ⟨ln_ic _ _, List.forall_mem_cons.mpr ⟨ln_sb, List.forall_mem_cons.mpr ⟨ln_al _ _, List.forall_mem_cons.mpr ⟨ln_gf 7 2 10, List.forall_mem_cons.mpr ⟨ln_il _ _, List.forall_mem_cons.mpr ⟨ln_ic _ _, List.forall_mem_cons.mpr ⟨ln_sb, List.forall_mem_cons.mpr ⟨ln_al _ _, List.forall_mem_cons.mpr ⟨ln_ic _ _, List.forall_mem_cons.mpr ⟨ln_pi _ _, List.forall_mem_cons.mpr ⟨ln_al _ _, List.forall_mem_cons.mpr ⟨ln_il _ _, List.forall_mem_cons.mpr ⟨ln_pi _ _, List.forall_mem_cons.mpr ⟨ln_rv, fun _ h => absurd h List.not_mem_nil⟩⟩⟩⟩⟩⟩⟩⟩⟩⟩⟩⟩⟩⟩⟩⟩⟩⟩⟩⟩⟩⟩⟩⟩⟩⟩⟩⟩
def rX2_seat : Room := { frames := 0, cells := 1, slots := 6, locals := 0 }
set_option maxRecDepth 100000 in
theorem hX2_seat {p : Program} {l : Launch} {e : Env} {s : State} {m : MethodId} {args : Array Value} {below : List Frame} {meth : Method} {c : Code} {D : va_G} {cy : Nat → ClassId} {o : Nat} (hl : l.stackTraces = false) (hX : am_X p l rX2_seat s m args meth c D cy o cX2_seat 3 yX2_seat.cls none) : ∀ q ∈ tX2_seat, am_OK p l e rX2_seat s m args below meth c D cy o 3 q.1 q.2 := List.forall_mem_cons.mpr ⟨ok_iln hX (k := 2) (by decide +kernel) rfl, List.forall_mem_cons.mpr ⟨ok_flt hX (off := 9) (by decide +kernel) (by decide), List.forall_mem_cons.mpr ⟨ok_iln hX (k := 2) (by decide +kernel) rfl, List.forall_mem_cons.mpr ⟨ok_bi hX (n := 10) (by decide +kernel) (by decide), List.forall_mem_cons.mpr ⟨ok_clt hX (off := 4) (by decide +kernel) (by decide), List.forall_mem_cons.mpr ⟨ok_rv hX (by decide +kernel) rfl, List.forall_mem_cons.mpr ⟨ok_aln hX (k := 0) (by decide +kernel) rfl, List.forall_mem_cons.mpr ⟨ok_gf hX (f := 7) (j := 0) (idx := 11) (C := RX2) (T := TX2) (N := 4) (by decide) rfl rfl rfl (by decide) iw2 tw_159 rfl rfl rfl (by decide +kernel), List.forall_mem_cons.mpr ⟨ok_iln hX (k := 2) (by decide +kernel) rfl, List.forall_mem_cons.mpr ⟨ok_aln hX (k := 1) (by decide +kernel) rfl, List.forall_mem_cons.mpr ⟨ok_sta hX (by decide +kernel), List.forall_mem_cons.mpr ⟨ok_aln hX (k := 0) (by decide +kernel) rfl, List.forall_mem_cons.mpr ⟨ok_gf hX (f := 7) (j := 1) (idx := 17) (C := RX2) (T := TX2) (N := 4) (by decide) rfl rfl rfl (by decide) iw2 tw_161 rfl rfl rfl (by decide +kernel), List.forall_mem_cons.mpr ⟨ok_iln hX (k := 2) (by decide +kernel) rfl, List.forall_mem_cons.mpr ⟨ok_ic hX (n := 1) (by decide +kernel) (by decide), List.forall_mem_cons.mpr ⟨ok_bst hX (by decide +kernel), List.forall_mem_cons.mpr ⟨ok_aln hX (k := 0) (by decide +kernel) rfl, List.forall_mem_cons.mpr ⟨ok_gf hX (f := 7) (j := 2) (idx := 21) (C := RX2) (T := TX2) (N := 4) (by decide) rfl rfl rfl (by decide) iw2 tw_163 rfl rfl rfl (by decide +kernel), List.forall_mem_cons.mpr ⟨ok_iln hX (k := 2) (by decide +kernel) rfl, List.forall_mem_cons.mpr ⟨ok_ic hX (n := 0) (by decide +kernel) (by decide), List.forall_mem_cons.mpr ⟨ok_bst hX (by decide +kernel), List.forall_mem_cons.mpr ⟨ok_aln hX (k := 1) (by decide +kernel) rfl, List.forall_mem_cons.mpr ⟨ok_ic hX (n := 1) (by decide +kernel) (by decide), List.forall_mem_cons.mpr ⟨ok_pi hX (f := 5) (j := 2) (idx := 28) (C := RX3) (T := TX3) (N := 8) (by decide) rfl rfl rfl (by decide) iw3 tw_105 rfl tyX3 tyX3_ok nmX3 rfl rfl rfl (by decide +kernel), List.forall_mem_cons.mpr ⟨ok_aln hX (k := 1) (by decide +kernel) rfl, List.forall_mem_cons.mpr ⟨ok_iln hX (k := 2) (by decide +kernel) rfl, List.forall_mem_cons.mpr ⟨ok_pi hX (f := 5) (j := 3) (idx := 31) (C := RX3) (T := TX3) (N := 8) (by decide) rfl rfl rfl (by decide) iw3 tw_110 rfl tyX3 tyX3_ok nmX3 rfl rfl rfl (by decide +kernel), List.forall_mem_cons.mpr ⟨ok_rv hX (by decide +kernel) rfl, fun _ h => absurd h List.not_mem_nil⟩⟩⟩⟩⟩⟩⟩⟩⟩⟩⟩⟩⟩⟩⟩⟩⟩⟩⟩⟩⟩⟩⟩⟩⟩⟩⟩⟩
theorem kX2_seat (l : Launch) (hl : l.stackTraces = false) : am_Ct l yX2_seat cX2_seat 3 none rX2_seat (am_M tX2_seat 3) := am_met hl (by decide +kernel) ⟨rfl, rfl⟩ (fun _ _ _ _ _ _ _ _ _ _ _ hX => hX2_seat hl hX)
noncomputable def vX2_seat (a1 : Int32) (a2 : Int32) (g : am_S) : am_R := am_E tX2_seat (0, [some (.inr (.inr (7, 0))), some (.inr (.inr (5, a1))), some (.inl a2)], [], g)
theorem eX2_seat (a1 : Int32) (a2 : Int32) (g : am_S) : vX2_seat a1 a2 g = if a2 < 0 then (some (.inl none, g)) else if a2 < 10 then (am_g (am_in a2 10) (am_g (am_nv a1) (am_g (am_in a2 10) (am_g (am_b 1) (am_g (am_in a2 10) (am_g (am_b 0) (am_g (am_in a1 128) (am_g (am_in a1 128) (some (.inl none, (am_up (am_up (am_up (am_up (am_up g 8 0 a2.toNatClampNeg a1) 9 0 a2.toNatClampNeg 1) 10 0 a2.toNatClampNeg 0) 5 a1.toNatClampNeg 2 1) 5 a1.toNatClampNeg 3 a2))))))))))) else some (.inl none, g) := (am_E_blk lX2_seat [] 33 _).trans rfl
noncomputable def tX2_touched : List (Nat × am_I) := [(0, im_il 1 1), (1, im_flt 10), (4, im_il 1 1), (5, im_ic 10 2), (7, im_clt 11), (10, im_rv), (11, im_al 0 1), (12, im_gf 7 1 9), (15, im_il 1 1), (16, im_ic 1 1), (17, im_sb), (18, im_il 2 1), (19, im_feq 29), (22, im_al 0 1), (23, im_gf 7 2 10), (26, im_il 1 1), (27, im_ic 1 1), (28, im_sb), (29, im_rv)]
theorem lX2_touched : am_linT tX2_touched := List.forall_mem_cons.mpr ⟨ln_il _ _, List.forall_mem_cons.mpr ⟨ln_flt _, List.forall_mem_cons.mpr ⟨ln_il _ _, List.forall_mem_cons.mpr ⟨ln_ic _ _, List.forall_mem_cons.mpr ⟨ln_clt _, List.forall_mem_cons.mpr ⟨ln_rv, List.forall_mem_cons.mpr ⟨ln_al _ _, List.forall_mem_cons.mpr ⟨ln_gf 7 1 9, List.forall_mem_cons.mpr ⟨ln_il _ _, List.forall_mem_cons.mpr ⟨ln_ic _ _, List.forall_mem_cons.mpr ⟨ln_sb, List.forall_mem_cons.mpr ⟨ln_il _ _, List.forall_mem_cons.mpr ⟨ln_feq _, List.forall_mem_cons.mpr ⟨ln_al _ _, List.forall_mem_cons.mpr ⟨ln_gf 7 2 10, List.forall_mem_cons.mpr ⟨ln_il _ _, List.forall_mem_cons.mpr ⟨ln_ic _ _, List.forall_mem_cons.mpr ⟨ln_sb, List.forall_mem_cons.mpr ⟨ln_rv, fun _ h => absurd h List.not_mem_nil⟩⟩⟩⟩⟩⟩⟩⟩⟩⟩⟩⟩⟩⟩⟩⟩⟩⟩⟩
def rX2_touched : Room := { frames := 0, cells := 1, slots := 6, locals := 0 }
set_option maxRecDepth 100000 in
theorem hX2_touched {p : Program} {l : Launch} {e : Env} {s : State} {m : MethodId} {args : Array Value} {below : List Frame} {meth : Method} {c : Code} {D : va_G} {cy : Nat → ClassId} {o : Nat} (hl : l.stackTraces = false) (hX : am_X p l rX2_touched s m args meth c D cy o cX2_touched 3 yX2_touched.cls none) : ∀ q ∈ tX2_touched, am_OK p l e rX2_touched s m args below meth c D cy o 3 q.1 q.2 := List.forall_mem_cons.mpr ⟨ok_iln hX (k := 1) (by decide +kernel) rfl, List.forall_mem_cons.mpr ⟨ok_flt hX (off := 9) (by decide +kernel) (by decide), List.forall_mem_cons.mpr ⟨ok_iln hX (k := 1) (by decide +kernel) rfl, List.forall_mem_cons.mpr ⟨ok_bi hX (n := 10) (by decide +kernel) (by decide), List.forall_mem_cons.mpr ⟨ok_clt hX (off := 4) (by decide +kernel) (by decide), List.forall_mem_cons.mpr ⟨ok_rv hX (by decide +kernel) rfl, List.forall_mem_cons.mpr ⟨ok_aln hX (k := 0) (by decide +kernel) rfl, List.forall_mem_cons.mpr ⟨ok_gf hX (f := 7) (j := 1) (idx := 17) (C := RX2) (T := TX2) (N := 4) (by decide) rfl rfl rfl (by decide) iw2 tw_161 rfl rfl rfl (by decide +kernel), List.forall_mem_cons.mpr ⟨ok_iln hX (k := 1) (by decide +kernel) rfl, List.forall_mem_cons.mpr ⟨ok_ic hX (n := 1) (by decide +kernel) (by decide), List.forall_mem_cons.mpr ⟨ok_bst hX (by decide +kernel), List.forall_mem_cons.mpr ⟨ok_iln hX (k := 2) (by decide +kernel) rfl, List.forall_mem_cons.mpr ⟨ok_feq hX (off := 10) (by decide +kernel) (by decide), List.forall_mem_cons.mpr ⟨ok_aln hX (k := 0) (by decide +kernel) rfl, List.forall_mem_cons.mpr ⟨ok_gf hX (f := 7) (j := 2) (idx := 21) (C := RX2) (T := TX2) (N := 4) (by decide) rfl rfl rfl (by decide) iw2 tw_163 rfl rfl rfl (by decide +kernel), List.forall_mem_cons.mpr ⟨ok_iln hX (k := 1) (by decide +kernel) rfl, List.forall_mem_cons.mpr ⟨ok_ic hX (n := 1) (by decide +kernel) (by decide), List.forall_mem_cons.mpr ⟨ok_bst hX (by decide +kernel), List.forall_mem_cons.mpr ⟨ok_rv hX (by decide +kernel) rfl, fun _ h => absurd h List.not_mem_nil⟩⟩⟩⟩⟩⟩⟩⟩⟩⟩⟩⟩⟩⟩⟩⟩⟩⟩⟩
theorem kX2_touched (l : Launch) (hl : l.stackTraces = false) : am_Ct l yX2_touched cX2_touched 3 none rX2_touched (am_M tX2_touched 3) := am_met hl (by decide +kernel) ⟨rfl, rfl⟩ (fun _ _ _ _ _ _ _ _ _ _ _ hX => hX2_touched hl hX)
noncomputable def vX2_touched (a1 : Int32) (a2 : Int32) (g : am_S) : am_R := am_E tX2_touched (0, [some (.inr (.inr (7, 0))), some (.inl a1), some (.inl a2)], [], g)
theorem eX2_touched (a1 : Int32) (a2 : Int32) (g : am_S) : vX2_touched a1 a2 g = if a1 < 0 then (some (.inl none, g)) else if a1 < 10 then (am_g (am_in a1 10) (am_g (am_b 1) (if a2 = 0 then (some (.inl none, (am_up g 9 0 a1.toNatClampNeg 1))) else am_g (am_in a1 10) (am_g (am_b 1) (some (.inl none, (am_up (am_up g 9 0 a1.toNatClampNeg 1) 10 0 a1.toNatClampNeg 1))))))) else some (.inl none, g) := (am_E_blk lX2_touched [] 24 _).trans rfl
noncomputable def tX2_vacate : List (Nat × am_I) := [(0, im_il 1 1), (1, im_flt 10), (4, im_il 1 1), (5, im_ic 10 2), (7, im_clt 11), (10, im_rv), (11, im_al 0 1), (12, im_gf 7 0 8), (15, im_il 1 1), (16, im_nl), (17, im_sa), (18, im_al 0 1), (19, im_gf 7 1 9), (22, im_il 1 1), (23, im_ic 0 1), (24, im_sb), (25, im_al 0 1), (26, im_gf 7 2 10), (29, im_il 1 1), (30, im_ic 0 1), (31, im_sb), (32, im_rv)]
theorem lX2_vacate : am_linT tX2_vacate := List.forall_mem_cons.mpr ⟨ln_il _ _, List.forall_mem_cons.mpr ⟨ln_flt _, List.forall_mem_cons.mpr ⟨ln_il _ _, List.forall_mem_cons.mpr ⟨ln_ic _ _, List.forall_mem_cons.mpr ⟨ln_clt _, List.forall_mem_cons.mpr ⟨ln_rv, List.forall_mem_cons.mpr ⟨ln_al _ _, List.forall_mem_cons.mpr ⟨ln_gf 7 0 8, List.forall_mem_cons.mpr ⟨ln_il _ _, List.forall_mem_cons.mpr ⟨ln_nl, List.forall_mem_cons.mpr ⟨ln_sa, List.forall_mem_cons.mpr ⟨ln_al _ _, List.forall_mem_cons.mpr ⟨ln_gf 7 1 9, List.forall_mem_cons.mpr ⟨ln_il _ _, List.forall_mem_cons.mpr ⟨ln_ic _ _, List.forall_mem_cons.mpr ⟨ln_sb, List.forall_mem_cons.mpr ⟨ln_al _ _, List.forall_mem_cons.mpr ⟨ln_gf 7 2 10, List.forall_mem_cons.mpr ⟨ln_il _ _, List.forall_mem_cons.mpr ⟨ln_ic _ _, List.forall_mem_cons.mpr ⟨ln_sb, List.forall_mem_cons.mpr ⟨ln_rv, fun _ h => absurd h List.not_mem_nil⟩⟩⟩⟩⟩⟩⟩⟩⟩⟩⟩⟩⟩⟩⟩⟩⟩⟩⟩⟩⟩⟩
def rX2_vacate : Room := { frames := 0, cells := 1, slots := 6, locals := 0 }
set_option maxRecDepth 100000 in
theorem hX2_vacate {p : Program} {l : Launch} {e : Env} {s : State} {m : MethodId} {args : Array Value} {below : List Frame} {meth : Method} {c : Code} {D : va_G} {cy : Nat → ClassId} {o : Nat} (hl : l.stackTraces = false) (hX : am_X p l rX2_vacate s m args meth c D cy o cX2_vacate 2 yX2_vacate.cls none) : ∀ q ∈ tX2_vacate, am_OK p l e rX2_vacate s m args below meth c D cy o 2 q.1 q.2 := List.forall_mem_cons.mpr ⟨ok_iln hX (k := 1) (by decide +kernel) rfl, List.forall_mem_cons.mpr ⟨ok_flt hX (off := 9) (by decide +kernel) (by decide), List.forall_mem_cons.mpr ⟨ok_iln hX (k := 1) (by decide +kernel) rfl, List.forall_mem_cons.mpr ⟨ok_bi hX (n := 10) (by decide +kernel) (by decide), List.forall_mem_cons.mpr ⟨ok_clt hX (off := 4) (by decide +kernel) (by decide), List.forall_mem_cons.mpr ⟨ok_rv hX (by decide +kernel) rfl, List.forall_mem_cons.mpr ⟨ok_aln hX (k := 0) (by decide +kernel) rfl, List.forall_mem_cons.mpr ⟨ok_gf hX (f := 7) (j := 0) (idx := 11) (C := RX2) (T := TX2) (N := 4) (by decide) rfl rfl rfl (by decide) iw2 tw_159 rfl rfl rfl (by decide +kernel), List.forall_mem_cons.mpr ⟨ok_iln hX (k := 1) (by decide +kernel) rfl, List.forall_mem_cons.mpr ⟨ok_nl hX (by decide +kernel), List.forall_mem_cons.mpr ⟨ok_sta hX (by decide +kernel), List.forall_mem_cons.mpr ⟨ok_aln hX (k := 0) (by decide +kernel) rfl, List.forall_mem_cons.mpr ⟨ok_gf hX (f := 7) (j := 1) (idx := 17) (C := RX2) (T := TX2) (N := 4) (by decide) rfl rfl rfl (by decide) iw2 tw_161 rfl rfl rfl (by decide +kernel), List.forall_mem_cons.mpr ⟨ok_iln hX (k := 1) (by decide +kernel) rfl, List.forall_mem_cons.mpr ⟨ok_ic hX (n := 0) (by decide +kernel) (by decide), List.forall_mem_cons.mpr ⟨ok_bst hX (by decide +kernel), List.forall_mem_cons.mpr ⟨ok_aln hX (k := 0) (by decide +kernel) rfl, List.forall_mem_cons.mpr ⟨ok_gf hX (f := 7) (j := 2) (idx := 21) (C := RX2) (T := TX2) (N := 4) (by decide) rfl rfl rfl (by decide) iw2 tw_163 rfl rfl rfl (by decide +kernel), List.forall_mem_cons.mpr ⟨ok_iln hX (k := 1) (by decide +kernel) rfl, List.forall_mem_cons.mpr ⟨ok_ic hX (n := 0) (by decide +kernel) (by decide), List.forall_mem_cons.mpr ⟨ok_bst hX (by decide +kernel), List.forall_mem_cons.mpr ⟨ok_rv hX (by decide +kernel) rfl, fun _ h => absurd h List.not_mem_nil⟩⟩⟩⟩⟩⟩⟩⟩⟩⟩⟩⟩⟩⟩⟩⟩⟩⟩⟩⟩⟩⟩
theorem kX2_vacate (l : Launch) (hl : l.stackTraces = false) : am_Ct l yX2_vacate cX2_vacate 2 none rX2_vacate (am_M tX2_vacate 2) := am_met hl (by decide +kernel) ⟨rfl, rfl⟩ (fun _ _ _ _ _ _ _ _ _ _ _ hX => hX2_vacate hl hX)
noncomputable def vX2_vacate (a1 : Int32) (g : am_S) : am_R := am_E tX2_vacate (0, [some (.inr (.inr (7, 0))), some (.inl a1)], [], g)
theorem eX2_vacate (a1 : Int32) (g : am_S) : vX2_vacate a1 g = if a1 < 0 then (some (.inl none, g)) else if a1 < 10 then (am_g (am_in a1 10) (am_g (am_nv (-1)) (am_g (am_in a1 10) (am_g (am_b 0) (am_g (am_in a1 10) (am_g (am_b 0) (some (.inl none, (am_up (am_up (am_up g 8 0 a1.toNatClampNeg (-1)) 9 0 a1.toNatClampNeg 0) 10 0 a1.toNatClampNeg 0))))))))) else some (.inl none, g) := (am_E_blk lX2_vacate [] 27 _).trans rfl
noncomputable def tX2_unmark : List (Nat × am_I) := [(0, im_al 0 1), (1, im_gf 7 1 9), (4, im_il 1 1), (5, im_ba), (6, im_is 2 1), (7, im_al 0 1), (8, im_gf 7 1 9), (11, im_il 1 1), (12, im_ic 0 1), (13, im_sb), (14, im_il 2 1), (15, im_rz)]
theorem lX2_unmark : am_linT tX2_unmark := List.forall_mem_cons.mpr ⟨ln_al _ _, List.forall_mem_cons.mpr ⟨ln_gf 7 1 9, List.forall_mem_cons.mpr ⟨ln_il _ _, List.forall_mem_cons.mpr ⟨ln_ba, List.forall_mem_cons.mpr ⟨ln_is _ _, List.forall_mem_cons.mpr ⟨ln_al _ _, List.forall_mem_cons.mpr ⟨ln_gf 7 1 9, List.forall_mem_cons.mpr ⟨ln_il _ _, List.forall_mem_cons.mpr ⟨ln_ic _ _, List.forall_mem_cons.mpr ⟨ln_sb, List.forall_mem_cons.mpr ⟨ln_il _ _, List.forall_mem_cons.mpr ⟨ln_rz, fun _ h => absurd h List.not_mem_nil⟩⟩⟩⟩⟩⟩⟩⟩⟩⟩⟩⟩
def rX2_unmark : Room := { frames := 0, cells := 1, slots := 6, locals := 0 }
set_option maxRecDepth 100000 in
theorem hX2_unmark {p : Program} {l : Launch} {e : Env} {s : State} {m : MethodId} {args : Array Value} {below : List Frame} {meth : Method} {c : Code} {D : va_G} {cy : Nat → ClassId} {o : Nat} (hl : l.stackTraces = false) (hX : am_X p l rX2_unmark s m args meth c D cy o cX2_unmark 3 yX2_unmark.cls (some .boolean)) : ∀ q ∈ tX2_unmark, am_OK p l e rX2_unmark s m args below meth c D cy o 3 q.1 q.2 := List.forall_mem_cons.mpr ⟨ok_aln hX (k := 0) (by decide +kernel) rfl, List.forall_mem_cons.mpr ⟨ok_gf hX (f := 7) (j := 1) (idx := 17) (C := RX2) (T := TX2) (N := 4) (by decide) rfl rfl rfl (by decide) iw2 tw_161 rfl rfl rfl (by decide +kernel), List.forall_mem_cons.mpr ⟨ok_iln hX (k := 1) (by decide +kernel) rfl, List.forall_mem_cons.mpr ⟨ok_ba hX (by decide +kernel), List.forall_mem_cons.mpr ⟨ok_isn hX (k := 2) (by decide +kernel) rfl (by decide), List.forall_mem_cons.mpr ⟨ok_aln hX (k := 0) (by decide +kernel) rfl, List.forall_mem_cons.mpr ⟨ok_gf hX (f := 7) (j := 1) (idx := 17) (C := RX2) (T := TX2) (N := 4) (by decide) rfl rfl rfl (by decide) iw2 tw_161 rfl rfl rfl (by decide +kernel), List.forall_mem_cons.mpr ⟨ok_iln hX (k := 1) (by decide +kernel) rfl, List.forall_mem_cons.mpr ⟨ok_ic hX (n := 0) (by decide +kernel) (by decide), List.forall_mem_cons.mpr ⟨ok_bst hX (by decide +kernel), List.forall_mem_cons.mpr ⟨ok_iln hX (k := 2) (by decide +kernel) rfl, List.forall_mem_cons.mpr ⟨ok_rz hX (by decide +kernel) rfl, fun _ h => absurd h List.not_mem_nil⟩⟩⟩⟩⟩⟩⟩⟩⟩⟩⟩⟩
theorem kX2_unmark (l : Launch) (hl : l.stackTraces = false) : am_Ct l yX2_unmark cX2_unmark 3 (some .boolean) rX2_unmark (am_M tX2_unmark 3) := am_met hl (by decide +kernel) ⟨rfl, rfl⟩ (fun _ _ _ _ _ _ _ _ _ _ _ hX => hX2_unmark hl hX)
noncomputable def vX2_unmark (a1 : Int32) (g : am_S) : am_R := am_E tX2_unmark (0, [some (.inr (.inr (7, 0))), some (.inl a1), none], [], g)
theorem eX2_unmark (a1 : Int32) (g : am_S) : vX2_unmark a1 g = am_g (am_in a1 10) (am_g (am_in a1 10) (am_g (am_b 0) (am_g (am_b (g 9 0 a1.toNatClampNeg)) (some (.inl (some (.inl (g 9 0 a1.toNatClampNeg))), (am_up g 9 0 a1.toNatClampNeg 0)))))) := (am_E_blk lX2_unmark [] 17 _).trans rfl
noncomputable def tX2_moveHand : List (Nat × am_I) := [(0, im_al 0 1), (1, im_al 0 1), (2, im_gi 7 3), (5, im_ic 1 1), (6, im_add), (7, im_ic 10 2), (9, im_rem), (10, im_pi 7 3), (13, im_al 0 1), (14, im_gi 7 3), (17, im_ic 2 1), (18, im_add), (19, im_ic 10 2), (21, im_rem), (22, im_is 2 1), (23, im_il 2 1), (24, im_il 1 1), (25, im_ceq 35), (28, im_al 0 1), (29, im_gf 7 1 9), (32, im_il 2 1), (33, im_ic 0 1), (34, im_sb), (35, im_rv)]
theorem lX2_moveHand : am_linT tX2_moveHand := List.forall_mem_cons.mpr ⟨ln_al _ _, List.forall_mem_cons.mpr ⟨ln_al _ _, List.forall_mem_cons.mpr ⟨ln_gi _ _, List.forall_mem_cons.mpr ⟨ln_ic _ _, List.forall_mem_cons.mpr ⟨ln_add, List.forall_mem_cons.mpr ⟨ln_ic _ _, List.forall_mem_cons.mpr ⟨ln_rem, List.forall_mem_cons.mpr ⟨ln_pi _ _, List.forall_mem_cons.mpr ⟨ln_al _ _, List.forall_mem_cons.mpr ⟨ln_gi _ _, List.forall_mem_cons.mpr ⟨ln_ic _ _, List.forall_mem_cons.mpr ⟨ln_add, List.forall_mem_cons.mpr ⟨ln_ic _ _, List.forall_mem_cons.mpr ⟨ln_rem, List.forall_mem_cons.mpr ⟨ln_is _ _, List.forall_mem_cons.mpr ⟨ln_il _ _, List.forall_mem_cons.mpr ⟨ln_il _ _, List.forall_mem_cons.mpr ⟨ln_ceq _, List.forall_mem_cons.mpr ⟨ln_al _ _, List.forall_mem_cons.mpr ⟨ln_gf 7 1 9, List.forall_mem_cons.mpr ⟨ln_il _ _, List.forall_mem_cons.mpr ⟨ln_ic _ _, List.forall_mem_cons.mpr ⟨ln_sb, List.forall_mem_cons.mpr ⟨ln_rv, fun _ h => absurd h List.not_mem_nil⟩⟩⟩⟩⟩⟩⟩⟩⟩⟩⟩⟩⟩⟩⟩⟩⟩⟩⟩⟩⟩⟩⟩⟩
def rX2_moveHand : Room := { frames := 0, cells := 1, slots := 6, locals := 0 }
set_option maxRecDepth 100000 in
theorem hX2_moveHand {p : Program} {l : Launch} {e : Env} {s : State} {m : MethodId} {args : Array Value} {below : List Frame} {meth : Method} {c : Code} {D : va_G} {cy : Nat → ClassId} {o : Nat} (hl : l.stackTraces = false) (hX : am_X p l rX2_moveHand s m args meth c D cy o cX2_moveHand 3 yX2_moveHand.cls none) : ∀ q ∈ tX2_moveHand, am_OK p l e rX2_moveHand s m args below meth c D cy o 3 q.1 q.2 := List.forall_mem_cons.mpr ⟨ok_aln hX (k := 0) (by decide +kernel) rfl, List.forall_mem_cons.mpr ⟨ok_aln hX (k := 0) (by decide +kernel) rfl, List.forall_mem_cons.mpr ⟨ok_gi hX (f := 7) (j := 3) (idx := 24) (C := RX2) (T := TX2) (N := 4) (by decide) rfl rfl rfl (by decide) iw2 tw_165 rfl rfl (by decide +kernel), List.forall_mem_cons.mpr ⟨ok_ic hX (n := 1) (by decide +kernel) (by decide), List.forall_mem_cons.mpr ⟨ok_add hX (by decide +kernel), List.forall_mem_cons.mpr ⟨ok_bi hX (n := 10) (by decide +kernel) (by decide), List.forall_mem_cons.mpr ⟨ok_rem hX (by decide +kernel), List.forall_mem_cons.mpr ⟨ok_pi hX (f := 7) (j := 3) (idx := 24) (C := RX2) (T := TX2) (N := 4) (by decide) rfl rfl rfl (by decide) iw2 tw_165 rfl tyX2 tyX2_ok nmX2 rfl rfl rfl (by decide +kernel), List.forall_mem_cons.mpr ⟨ok_aln hX (k := 0) (by decide +kernel) rfl, List.forall_mem_cons.mpr ⟨ok_gi hX (f := 7) (j := 3) (idx := 24) (C := RX2) (T := TX2) (N := 4) (by decide) rfl rfl rfl (by decide) iw2 tw_165 rfl rfl (by decide +kernel), List.forall_mem_cons.mpr ⟨ok_ic hX (n := 2) (by decide +kernel) (by decide), List.forall_mem_cons.mpr ⟨ok_add hX (by decide +kernel), List.forall_mem_cons.mpr ⟨ok_bi hX (n := 10) (by decide +kernel) (by decide), List.forall_mem_cons.mpr ⟨ok_rem hX (by decide +kernel), List.forall_mem_cons.mpr ⟨ok_isn hX (k := 2) (by decide +kernel) rfl (by decide), List.forall_mem_cons.mpr ⟨ok_iln hX (k := 2) (by decide +kernel) rfl, List.forall_mem_cons.mpr ⟨ok_iln hX (k := 1) (by decide +kernel) rfl, List.forall_mem_cons.mpr ⟨ok_ceq hX (off := 10) (by decide +kernel) (by decide), List.forall_mem_cons.mpr ⟨ok_aln hX (k := 0) (by decide +kernel) rfl, List.forall_mem_cons.mpr ⟨ok_gf hX (f := 7) (j := 1) (idx := 17) (C := RX2) (T := TX2) (N := 4) (by decide) rfl rfl rfl (by decide) iw2 tw_161 rfl rfl rfl (by decide +kernel), List.forall_mem_cons.mpr ⟨ok_iln hX (k := 2) (by decide +kernel) rfl, List.forall_mem_cons.mpr ⟨ok_ic hX (n := 0) (by decide +kernel) (by decide), List.forall_mem_cons.mpr ⟨ok_bst hX (by decide +kernel), List.forall_mem_cons.mpr ⟨ok_rv hX (by decide +kernel) rfl, fun _ h => absurd h List.not_mem_nil⟩⟩⟩⟩⟩⟩⟩⟩⟩⟩⟩⟩⟩⟩⟩⟩⟩⟩⟩⟩⟩⟩⟩⟩
theorem kX2_moveHand (l : Launch) (hl : l.stackTraces = false) : am_Ct l yX2_moveHand cX2_moveHand 3 none rX2_moveHand (am_M tX2_moveHand 3) := am_met hl (by decide +kernel) ⟨rfl, rfl⟩ (fun _ _ _ _ _ _ _ _ _ _ _ hX => hX2_moveHand hl hX)
noncomputable def vX2_moveHand (a1 : Int32) (g : am_S) : am_R := am_E tX2_moveHand (0, [some (.inr (.inr (7, 0))), some (.inl a1), none], [], g)
theorem eX2_moveHand (a1 : Int32) (g : am_S) : vX2_moveHand a1 g = am_g (am_nz 10) (am_g (am_nz 10) (if ((((am_up g 7 0 3 (((g 7 0 3) + 1) - ((g 7 0 3) + 1) / 10 * 10)) 7 0 3) + 2) - (((am_up g 7 0 3 (((g 7 0 3) + 1) - ((g 7 0 3) + 1) / 10 * 10)) 7 0 3) + 2) / 10 * 10) = a1 then (some (.inl none, (am_up g 7 0 3 (((g 7 0 3) + 1) - ((g 7 0 3) + 1) / 10 * 10)))) else am_g (am_in ((((am_up g 7 0 3 (((g 7 0 3) + 1) - ((g 7 0 3) + 1) / 10 * 10)) 7 0 3) + 2) - (((am_up g 7 0 3 (((g 7 0 3) + 1) - ((g 7 0 3) + 1) / 10 * 10)) 7 0 3) + 2) / 10 * 10) 10) (am_g (am_b 0) (some (.inl none, (am_up (am_up g 7 0 3 (((g 7 0 3) + 1) - ((g 7 0 3) + 1) / 10 * 10)) 9 0 (((((am_up g 7 0 3 (((g 7 0 3) + 1) - ((g 7 0 3) + 1) / 10 * 10)) 7 0 3) + 2) - (((am_up g 7 0 3 (((g 7 0 3) + 1) - ((g 7 0 3) + 1) / 10 * 10)) 7 0 3) + 2) / 10 * 10).toNatClampNeg) 0)))))) := (am_E_blk lX2_moveHand [] 29 _).trans rfl
end
