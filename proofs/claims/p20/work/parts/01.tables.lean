/-- a private method of a class that the tables say can be made, by its rows of tables_1 -/
def lw_okq (q : MethodName × Nat) : Prop := (q.1.cls ≠ "java/lang/invoke/MethodHandle" ∧ q.1.cls ≠ "java/lang/invoke/VarHandle") ∧ Cond.instantiable q.1.cls q.2 ∈ tables_1 ∧ Cond.privateMethod q.1 ∈ tables_1 ∧ Cond.instanceMethod q.1 ∈ tables_1
theorem lw_p0 : lw_okq (⟨"SheetKernel", "countPages", "()V"⟩, 5) := ⟨⟨by decide +kernel, by decide +kernel⟩, List.mem_of_getElem? (i := 17) (by decide +kernel), List.mem_of_getElem? (i := 277) (by decide +kernel), List.mem_of_getElem? (i := 278) (by decide +kernel)⟩
theorem lw_p1 : lw_okq (⟨"SheetKernel", "lowestNotLiving", "()I"⟩, 5) := ⟨⟨by decide +kernel, by decide +kernel⟩, List.mem_of_getElem? (i := 17) (by decide +kernel), List.mem_of_getElem? (i := 313) (by decide +kernel), List.mem_of_getElem? (i := 314) (by decide +kernel)⟩
theorem lw_p2 : lw_okq (⟨"java/lang/Throwable", "fillInStackTrace", "(I)Ljava/lang/Throwable;"⟩, 6) := ⟨⟨by decide +kernel, by decide +kernel⟩, List.mem_of_getElem? (i := 356) (by decide +kernel), List.mem_of_getElem? (i := 354) (by decide +kernel), List.mem_of_getElem? (i := 355) (by decide +kernel)⟩
theorem lw_p3 : lw_okq (⟨"SheetKernel", "living", "(I)LSheetKernel$Task;"⟩, 5) := ⟨⟨by decide +kernel, by decide +kernel⟩, List.mem_of_getElem? (i := 17) (by decide +kernel), List.mem_of_getElem? (i := 399) (by decide +kernel), List.mem_of_getElem? (i := 400) (by decide +kernel)⟩
theorem lw_p4 : lw_okq (⟨"SheetKernel", "needPage", "(I)V"⟩, 5) := ⟨⟨by decide +kernel, by decide +kernel⟩, List.mem_of_getElem? (i := 17) (by decide +kernel), List.mem_of_getElem? (i := 419) (by decide +kernel), List.mem_of_getElem? (i := 420) (by decide +kernel)⟩
theorem lw_p5 : lw_okq (⟨"SheetKernel", "needCount", "(I)V"⟩, 5) := ⟨⟨by decide +kernel, by decide +kernel⟩, List.mem_of_getElem? (i := 17) (by decide +kernel), List.mem_of_getElem? (i := 424) (by decide +kernel), List.mem_of_getElem? (i := 425) (by decide +kernel)⟩
theorem lw_p6 : lw_okq (⟨"SheetKernel", "needUnmapped", "(LSheetKernel$Task;II)V"⟩, 5) := ⟨⟨by decide +kernel, by decide +kernel⟩, List.mem_of_getElem? (i := 17) (by decide +kernel), List.mem_of_getElem? (i := 445) (by decide +kernel), List.mem_of_getElem? (i := 446) (by decide +kernel)⟩
theorem lw_p7 : lw_okq (⟨"SheetKernel", "needShared", "(LSheetKernel$Task;II)V"⟩, 5) := ⟨⟨by decide +kernel, by decide +kernel⟩, List.mem_of_getElem? (i := 17) (by decide +kernel), List.mem_of_getElem? (i := 466) (by decide +kernel), List.mem_of_getElem? (i := 467) (by decide +kernel)⟩
theorem lw_p8 : lw_okq (⟨"SheetKernel", "needMapped", "(LSheetKernel$Task;II)V"⟩, 5) := ⟨⟨by decide +kernel, by decide +kernel⟩, List.mem_of_getElem? (i := 17) (by decide +kernel), List.mem_of_getElem? (i := 470) (by decide +kernel), List.mem_of_getElem? (i := 471) (by decide +kernel)⟩
theorem lw_p9 : lw_okq (⟨"SheetKernel", "unmap", "(LSheetKernel$Task;I)V"⟩, 5) := ⟨⟨by decide +kernel, by decide +kernel⟩, List.mem_of_getElem? (i := 17) (by decide +kernel), List.mem_of_getElem? (i := 488) (by decide +kernel), List.mem_of_getElem? (i := 489) (by decide +kernel)⟩
theorem lw_p10 : lw_okq (⟨"SheetKernel", "doubled", "(LSheetKernel$Task;)I"⟩, 5) := ⟨⟨by decide +kernel, by decide +kernel⟩, List.mem_of_getElem? (i := 17) (by decide +kernel), List.mem_of_getElem? (i := 519) (by decide +kernel), List.mem_of_getElem? (i := 520) (by decide +kernel)⟩
theorem lw_p11 : lw_okq (⟨"SheetKernel", "endTask", "(LSheetKernel$Task;I)V"⟩, 5) := ⟨⟨by decide +kernel, by decide +kernel⟩, List.mem_of_getElem? (i := 17) (by decide +kernel), List.mem_of_getElem? (i := 531) (by decide +kernel), List.mem_of_getElem? (i := 532) (by decide +kernel)⟩
theorem lw_p12 : lw_okq (⟨"SheetKernel", "needAddress", "(I)V"⟩, 5) := ⟨⟨by decide +kernel, by decide +kernel⟩, List.mem_of_getElem? (i := 17) (by decide +kernel), List.mem_of_getElem? (i := 543) (by decide +kernel), List.mem_of_getElem? (i := 544) (by decide +kernel)⟩
theorem lw_p13 : lw_okq (⟨"SheetKernel", "touch", "(LSheetKernel$Task;II)LSheetKernel$Sheet;"⟩, 5) := ⟨⟨by decide +kernel, by decide +kernel⟩, List.mem_of_getElem? (i := 17) (by decide +kernel), List.mem_of_getElem? (i := 548) (by decide +kernel), List.mem_of_getElem? (i := 549) (by decide +kernel)⟩
theorem lw_p14 : lw_okq (⟨"SheetKernel", "startFault", "(LSheetKernel$Task;LSheetKernel$Sheet;)Z"⟩, 5) := ⟨⟨by decide +kernel, by decide +kernel⟩, List.mem_of_getElem? (i := 17) (by decide +kernel), List.mem_of_getElem? (i := 556) (by decide +kernel), List.mem_of_getElem? (i := 557) (by decide +kernel)⟩
theorem lw_p15 : lw_okq (⟨"SheetKernel", "findFrame", "(LSheetKernel$Task;I)I"⟩, 5) := ⟨⟨by decide +kernel, by decide +kernel⟩, List.mem_of_getElem? (i := 17) (by decide +kernel), List.mem_of_getElem? (i := 568) (by decide +kernel), List.mem_of_getElem? (i := 569) (by decide +kernel)⟩
def lw_privs_1 : List (MethodName × Nat) := [(⟨"SheetKernel", "countPages", "()V"⟩, 5), (⟨"SheetKernel", "lowestNotLiving", "()I"⟩, 5), (⟨"java/lang/Throwable", "fillInStackTrace", "(I)Ljava/lang/Throwable;"⟩, 6), (⟨"SheetKernel", "living", "(I)LSheetKernel$Task;"⟩, 5), (⟨"SheetKernel", "needPage", "(I)V"⟩, 5), (⟨"SheetKernel", "needCount", "(I)V"⟩, 5), (⟨"SheetKernel", "needUnmapped", "(LSheetKernel$Task;II)V"⟩, 5), (⟨"SheetKernel", "needShared", "(LSheetKernel$Task;II)V"⟩, 5), (⟨"SheetKernel", "needMapped", "(LSheetKernel$Task;II)V"⟩, 5), (⟨"SheetKernel", "unmap", "(LSheetKernel$Task;I)V"⟩, 5), (⟨"SheetKernel", "doubled", "(LSheetKernel$Task;)I"⟩, 5), (⟨"SheetKernel", "endTask", "(LSheetKernel$Task;I)V"⟩, 5), (⟨"SheetKernel", "needAddress", "(I)V"⟩, 5), (⟨"SheetKernel", "touch", "(LSheetKernel$Task;II)LSheetKernel$Sheet;"⟩, 5), (⟨"SheetKernel", "startFault", "(LSheetKernel$Task;LSheetKernel$Sheet;)Z"⟩, 5), (⟨"SheetKernel", "findFrame", "(LSheetKernel$Task;I)I"⟩, 5)]
theorem lw_r1 : ∀ q ∈ lw_privs_1, lw_okq q := List.forall_mem_cons.mpr ⟨lw_p0, List.forall_mem_cons.mpr ⟨lw_p1, List.forall_mem_cons.mpr ⟨lw_p2, List.forall_mem_cons.mpr ⟨lw_p3, List.forall_mem_cons.mpr ⟨lw_p4, List.forall_mem_cons.mpr ⟨lw_p5, List.forall_mem_cons.mpr ⟨lw_p6, List.forall_mem_cons.mpr ⟨lw_p7, List.forall_mem_cons.mpr ⟨lw_p8, List.forall_mem_cons.mpr ⟨lw_p9, List.forall_mem_cons.mpr ⟨lw_p10, List.forall_mem_cons.mpr ⟨lw_p11, List.forall_mem_cons.mpr ⟨lw_p12, List.forall_mem_cons.mpr ⟨lw_p13, List.forall_mem_cons.mpr ⟨lw_p14, List.forall_mem_cons.mpr ⟨lw_p15, fun _ h => absurd h List.not_mem_nil⟩⟩⟩⟩⟩⟩⟩⟩⟩⟩⟩⟩⟩⟩⟩⟩
theorem lw_p16 : lw_okq (⟨"SheetKernel", "putAway", "(I)Z"⟩, 5) := ⟨⟨by decide +kernel, by decide +kernel⟩, List.mem_of_getElem? (i := 17) (by decide +kernel), List.mem_of_getElem? (i := 580) (by decide +kernel), List.mem_of_getElem? (i := 581) (by decide +kernel)⟩
theorem lw_p17 : lw_okq (⟨"SheetKernel", "storeInSlots", "(LSheetKernel$Sheet;)Z"⟩, 5) := ⟨⟨by decide +kernel, by decide +kernel⟩, List.mem_of_getElem? (i := 17) (by decide +kernel), List.mem_of_getElem? (i := 596) (by decide +kernel), List.mem_of_getElem? (i := 597) (by decide +kernel)⟩
theorem lw_p18 : lw_okq (⟨"SheetKernel", "isValuable", "(LSheetKernel$Sheet;)Z"⟩, 5) := ⟨⟨by decide +kernel, by decide +kernel⟩, List.mem_of_getElem? (i := 17) (by decide +kernel), List.mem_of_getElem? (i := 604) (by decide +kernel), List.mem_of_getElem? (i := 605) (by decide +kernel)⟩
theorem lw_p19 : lw_okq (⟨"SheetKernel", "whoEnds", "(LSheetKernel$Task;)LSheetKernel$Task;"⟩, 5) := ⟨⟨by decide +kernel, by decide +kernel⟩, List.mem_of_getElem? (i := 17) (by decide +kernel), List.mem_of_getElem? (i := 608) (by decide +kernel), List.mem_of_getElem? (i := 609) (by decide +kernel)⟩
theorem lw_p20 : lw_okq (⟨"SheetKernel", "bringIn", "(LSheetKernel$Sheet;I)V"⟩, 5) := ⟨⟨by decide +kernel, by decide +kernel⟩, List.mem_of_getElem? (i := 17) (by decide +kernel), List.mem_of_getElem? (i := 613) (by decide +kernel), List.mem_of_getElem? (i := 614) (by decide +kernel)⟩
theorem lw_p21 : lw_okq (⟨"SheetKernel", "copyInto", "(LSheetKernel$Task;II)LSheetKernel$Sheet;"⟩, 5) := ⟨⟨by decide +kernel, by decide +kernel⟩, List.mem_of_getElem? (i := 17) (by decide +kernel), List.mem_of_getElem? (i := 627) (by decide +kernel), List.mem_of_getElem? (i := 628) (by decide +kernel)⟩
theorem lw_p22 : lw_okq (⟨"SheetKernel", "throwUntouched", "(LSheetKernel$Task;)V"⟩, 5) := ⟨⟨by decide +kernel, by decide +kernel⟩, List.mem_of_getElem? (i := 17) (by decide +kernel), List.mem_of_getElem? (i := 639) (by decide +kernel), List.mem_of_getElem? (i := 640) (by decide +kernel)⟩
theorem lw_p23 : lw_okq (⟨"SheetKernel", "put", "(IIII)V"⟩, 5) := ⟨⟨by decide +kernel, by decide +kernel⟩, List.mem_of_getElem? (i := 17) (by decide +kernel), List.mem_of_getElem? (i := 667) (by decide +kernel), List.mem_of_getElem? (i := 668) (by decide +kernel)⟩
theorem lw_p24 : lw_okq (⟨"SheetKernel", "endRefused", "(LSheetKernel$Task;)V"⟩, 5) := ⟨⟨by decide +kernel, by decide +kernel⟩, List.mem_of_getElem? (i := 17) (by decide +kernel), List.mem_of_getElem? (i := 686) (by decide +kernel), List.mem_of_getElem? (i := 687) (by decide +kernel)⟩
theorem lw_p25 : lw_okq (⟨"SheetKernel", "perform", "(LSheetKernel$Task;I)V"⟩, 5) := ⟨⟨by decide +kernel, by decide +kernel⟩, List.mem_of_getElem? (i := 17) (by decide +kernel), List.mem_of_getElem? (i := 690) (by decide +kernel), List.mem_of_getElem? (i := 691) (by decide +kernel)⟩
theorem lw_p26 : lw_okq (⟨"SheetKernel", "forkInto", "(LSheetKernel$Task;I)V"⟩, 5) := ⟨⟨by decide +kernel, by decide +kernel⟩, List.mem_of_getElem? (i := 17) (by decide +kernel), List.mem_of_getElem? (i := 694) (by decide +kernel), List.mem_of_getElem? (i := 695) (by decide +kernel)⟩
theorem lw_p27 : lw_okq (⟨"SheetKernelModel", "fresh", "()I"⟩, 22) := ⟨⟨by decide +kernel, by decide +kernel⟩, List.mem_of_getElem? (i := 718) (by decide +kernel), List.mem_of_getElem? (i := 795) (by decide +kernel), List.mem_of_getElem? (i := 796) (by decide +kernel)⟩
theorem lw_p28 : lw_okq (⟨"SheetKernelModel", "isLiving", "(I)Z"⟩, 22) := ⟨⟨by decide +kernel, by decide +kernel⟩, List.mem_of_getElem? (i := 718) (by decide +kernel), List.mem_of_getElem? (i := 803) (by decide +kernel), List.mem_of_getElem? (i := 804) (by decide +kernel)⟩
theorem lw_p29 : lw_okq (⟨"SheetKernelModel", "areFree", "(III)Z"⟩, 22) := ⟨⟨by decide +kernel, by decide +kernel⟩, List.mem_of_getElem? (i := 718) (by decide +kernel), List.mem_of_getElem? (i := 810) (by decide +kernel), List.mem_of_getElem? (i := 811) (by decide +kernel)⟩
theorem lw_p30 : lw_okq (⟨"SheetKernelModel", "newSheet", "()I"⟩, 22) := ⟨⟨by decide +kernel, by decide +kernel⟩, List.mem_of_getElem? (i := 718) (by decide +kernel), List.mem_of_getElem? (i := 814) (by decide +kernel), List.mem_of_getElem? (i := 815) (by decide +kernel)⟩
theorem lw_p31 : lw_okq (⟨"SheetKernelModel", "areMapped", "(III)Z"⟩, 22) := ⟨⟨by decide +kernel, by decide +kernel⟩, List.mem_of_getElem? (i := 718) (by decide +kernel), List.mem_of_getElem? (i := 822) (by decide +kernel), List.mem_of_getElem? (i := 823) (by decide +kernel)⟩
def lw_privs_2 : List (MethodName × Nat) := [(⟨"SheetKernel", "putAway", "(I)Z"⟩, 5), (⟨"SheetKernel", "storeInSlots", "(LSheetKernel$Sheet;)Z"⟩, 5), (⟨"SheetKernel", "isValuable", "(LSheetKernel$Sheet;)Z"⟩, 5), (⟨"SheetKernel", "whoEnds", "(LSheetKernel$Task;)LSheetKernel$Task;"⟩, 5), (⟨"SheetKernel", "bringIn", "(LSheetKernel$Sheet;I)V"⟩, 5), (⟨"SheetKernel", "copyInto", "(LSheetKernel$Task;II)LSheetKernel$Sheet;"⟩, 5), (⟨"SheetKernel", "throwUntouched", "(LSheetKernel$Task;)V"⟩, 5), (⟨"SheetKernel", "put", "(IIII)V"⟩, 5), (⟨"SheetKernel", "endRefused", "(LSheetKernel$Task;)V"⟩, 5), (⟨"SheetKernel", "perform", "(LSheetKernel$Task;I)V"⟩, 5), (⟨"SheetKernel", "forkInto", "(LSheetKernel$Task;I)V"⟩, 5), (⟨"SheetKernelModel", "fresh", "()I"⟩, 22), (⟨"SheetKernelModel", "isLiving", "(I)Z"⟩, 22), (⟨"SheetKernelModel", "areFree", "(III)Z"⟩, 22), (⟨"SheetKernelModel", "newSheet", "()I"⟩, 22), (⟨"SheetKernelModel", "areMapped", "(III)Z"⟩, 22)]
theorem lw_r2 : ∀ q ∈ lw_privs_2, lw_okq q := List.forall_mem_cons.mpr ⟨lw_p16, List.forall_mem_cons.mpr ⟨lw_p17, List.forall_mem_cons.mpr ⟨lw_p18, List.forall_mem_cons.mpr ⟨lw_p19, List.forall_mem_cons.mpr ⟨lw_p20, List.forall_mem_cons.mpr ⟨lw_p21, List.forall_mem_cons.mpr ⟨lw_p22, List.forall_mem_cons.mpr ⟨lw_p23, List.forall_mem_cons.mpr ⟨lw_p24, List.forall_mem_cons.mpr ⟨lw_p25, List.forall_mem_cons.mpr ⟨lw_p26, List.forall_mem_cons.mpr ⟨lw_p27, List.forall_mem_cons.mpr ⟨lw_p28, List.forall_mem_cons.mpr ⟨lw_p29, List.forall_mem_cons.mpr ⟨lw_p30, List.forall_mem_cons.mpr ⟨lw_p31, fun _ h => absurd h List.not_mem_nil⟩⟩⟩⟩⟩⟩⟩⟩⟩⟩⟩⟩⟩⟩⟩⟩
theorem lw_p32 : lw_okq (⟨"SheetKernelModel", "mappings", "(I)I"⟩, 22) := ⟨⟨by decide +kernel, by decide +kernel⟩, List.mem_of_getElem? (i := 718) (by decide +kernel), List.mem_of_getElem? (i := 826) (by decide +kernel), List.mem_of_getElem? (i := 827) (by decide +kernel)⟩
theorem lw_p33 : lw_okq (⟨"SheetKernelModel", "unmap", "(I)V"⟩, 22) := ⟨⟨by decide +kernel, by decide +kernel⟩, List.mem_of_getElem? (i := 718) (by decide +kernel), List.mem_of_getElem? (i := 834) (by decide +kernel), List.mem_of_getElem? (i := 835) (by decide +kernel)⟩
theorem lw_p34 : lw_okq (⟨"SheetKernelModel", "frameOf", "(I)I"⟩, 22) := ⟨⟨by decide +kernel, by decide +kernel⟩, List.mem_of_getElem? (i := 718) (by decide +kernel), List.mem_of_getElem? (i := 838) (by decide +kernel), List.mem_of_getElem? (i := 839) (by decide +kernel)⟩
theorem lw_p35 : lw_okq (⟨"SheetKernelModel", "clearFrame", "(I)V"⟩, 22) := ⟨⟨by decide +kernel, by decide +kernel⟩, List.mem_of_getElem? (i := 718) (by decide +kernel), List.mem_of_getElem? (i := 842) (by decide +kernel), List.mem_of_getElem? (i := 843) (by decide +kernel)⟩
theorem lw_p36 : lw_okq (⟨"SheetKernelModel", "freeSlots", "(I)V"⟩, 22) := ⟨⟨by decide +kernel, by decide +kernel⟩, List.mem_of_getElem? (i := 718) (by decide +kernel), List.mem_of_getElem? (i := 846) (by decide +kernel), List.mem_of_getElem? (i := 847) (by decide +kernel)⟩
theorem lw_p37 : lw_okq (⟨"SheetKernelModel", "freeSlot", "(I)V"⟩, 22) := ⟨⟨by decide +kernel, by decide +kernel⟩, List.mem_of_getElem? (i := 718) (by decide +kernel), List.mem_of_getElem? (i := 850) (by decide +kernel), List.mem_of_getElem? (i := 851) (by decide +kernel)⟩
theorem lw_p38 : lw_okq (⟨"SheetKernelModel", "divide", "(I)I"⟩, 22) := ⟨⟨by decide +kernel, by decide +kernel⟩, List.mem_of_getElem? (i := 718) (by decide +kernel), List.mem_of_getElem? (i := 858) (by decide +kernel), List.mem_of_getElem? (i := 859) (by decide +kernel)⟩
theorem lw_p39 : lw_okq (⟨"SheetKernelModel", "end", "(II)V"⟩, 22) := ⟨⟨by decide +kernel, by decide +kernel⟩, List.mem_of_getElem? (i := 718) (by decide +kernel), List.mem_of_getElem? (i := 866) (by decide +kernel), List.mem_of_getElem? (i := 867) (by decide +kernel)⟩
theorem lw_p40 : lw_okq (⟨"SheetKernelModel", "access", "(IIZZ)I"⟩, 22) := ⟨⟨by decide +kernel, by decide +kernel⟩, List.mem_of_getElem? (i := 718) (by decide +kernel), List.mem_of_getElem? (i := 874) (by decide +kernel), List.mem_of_getElem? (i := 875) (by decide +kernel)⟩
theorem lw_p41 : lw_okq (⟨"SheetKernelModel", "touch", "(IIZZ)I"⟩, 22) := ⟨⟨by decide +kernel, by decide +kernel⟩, List.mem_of_getElem? (i := 718) (by decide +kernel), List.mem_of_getElem? (i := 878) (by decide +kernel), List.mem_of_getElem? (i := 879) (by decide +kernel)⟩
theorem lw_p42 : lw_okq (⟨"SheetKernelModel", "bring", "(II)I"⟩, 22) := ⟨⟨by decide +kernel, by decide +kernel⟩, List.mem_of_getElem? (i := 718) (by decide +kernel), List.mem_of_getElem? (i := 882) (by decide +kernel), List.mem_of_getElem? (i := 883) (by decide +kernel)⟩
theorem lw_p43 : lw_okq (⟨"SheetKernelModel", "isGone", "(I)Z"⟩, 22) := ⟨⟨by decide +kernel, by decide +kernel⟩, List.mem_of_getElem? (i := 718) (by decide +kernel), List.mem_of_getElem? (i := 886) (by decide +kernel), List.mem_of_getElem? (i := 887) (by decide +kernel)⟩
theorem lw_p44 : lw_okq (⟨"SheetKernelModel", "slotNumber", "(II)I"⟩, 22) := ⟨⟨by decide +kernel, by decide +kernel⟩, List.mem_of_getElem? (i := 718) (by decide +kernel), List.mem_of_getElem? (i := 890) (by decide +kernel), List.mem_of_getElem? (i := 891) (by decide +kernel)⟩
theorem lw_p45 : lw_okq (⟨"SheetKernelModel", "fault", "(II)V"⟩, 22) := ⟨⟨by decide +kernel, by decide +kernel⟩, List.mem_of_getElem? (i := 718) (by decide +kernel), List.mem_of_getElem? (i := 894) (by decide +kernel), List.mem_of_getElem? (i := 895) (by decide +kernel)⟩
theorem lw_p46 : lw_okq (⟨"SheetKernelModel", "findFrame", "(II)I"⟩, 22) := ⟨⟨by decide +kernel, by decide +kernel⟩, List.mem_of_getElem? (i := 718) (by decide +kernel), List.mem_of_getElem? (i := 898) (by decide +kernel), List.mem_of_getElem? (i := 899) (by decide +kernel)⟩
theorem lw_p47 : lw_okq (⟨"SheetKernelModel", "empty", "(I)Z"⟩, 22) := ⟨⟨by decide +kernel, by decide +kernel⟩, List.mem_of_getElem? (i := 718) (by decide +kernel), List.mem_of_getElem? (i := 902) (by decide +kernel), List.mem_of_getElem? (i := 903) (by decide +kernel)⟩
def lw_privs_3 : List (MethodName × Nat) := [(⟨"SheetKernelModel", "mappings", "(I)I"⟩, 22), (⟨"SheetKernelModel", "unmap", "(I)V"⟩, 22), (⟨"SheetKernelModel", "frameOf", "(I)I"⟩, 22), (⟨"SheetKernelModel", "clearFrame", "(I)V"⟩, 22), (⟨"SheetKernelModel", "freeSlots", "(I)V"⟩, 22), (⟨"SheetKernelModel", "freeSlot", "(I)V"⟩, 22), (⟨"SheetKernelModel", "divide", "(I)I"⟩, 22), (⟨"SheetKernelModel", "end", "(II)V"⟩, 22), (⟨"SheetKernelModel", "access", "(IIZZ)I"⟩, 22), (⟨"SheetKernelModel", "touch", "(IIZZ)I"⟩, 22), (⟨"SheetKernelModel", "bring", "(II)I"⟩, 22), (⟨"SheetKernelModel", "isGone", "(I)Z"⟩, 22), (⟨"SheetKernelModel", "slotNumber", "(II)I"⟩, 22), (⟨"SheetKernelModel", "fault", "(II)V"⟩, 22), (⟨"SheetKernelModel", "findFrame", "(II)I"⟩, 22), (⟨"SheetKernelModel", "empty", "(I)Z"⟩, 22)]
theorem lw_r3 : ∀ q ∈ lw_privs_3, lw_okq q := List.forall_mem_cons.mpr ⟨lw_p32, List.forall_mem_cons.mpr ⟨lw_p33, List.forall_mem_cons.mpr ⟨lw_p34, List.forall_mem_cons.mpr ⟨lw_p35, List.forall_mem_cons.mpr ⟨lw_p36, List.forall_mem_cons.mpr ⟨lw_p37, List.forall_mem_cons.mpr ⟨lw_p38, List.forall_mem_cons.mpr ⟨lw_p39, List.forall_mem_cons.mpr ⟨lw_p40, List.forall_mem_cons.mpr ⟨lw_p41, List.forall_mem_cons.mpr ⟨lw_p42, List.forall_mem_cons.mpr ⟨lw_p43, List.forall_mem_cons.mpr ⟨lw_p44, List.forall_mem_cons.mpr ⟨lw_p45, List.forall_mem_cons.mpr ⟨lw_p46, List.forall_mem_cons.mpr ⟨lw_p47, fun _ h => absurd h List.not_mem_nil⟩⟩⟩⟩⟩⟩⟩⟩⟩⟩⟩⟩⟩⟩⟩⟩
theorem lw_p48 : lw_okq (⟨"SheetKernelModel", "packs", "(I)I"⟩, 22) := ⟨⟨by decide +kernel, by decide +kernel⟩, List.mem_of_getElem? (i := 718) (by decide +kernel), List.mem_of_getElem? (i := 906) (by decide +kernel), List.mem_of_getElem? (i := 907) (by decide +kernel)⟩
theorem lw_p49 : lw_okq (⟨"SheetKernelModel", "room", "(I)I"⟩, 22) := ⟨⟨by decide +kernel, by decide +kernel⟩, List.mem_of_getElem? (i := 718) (by decide +kernel), List.mem_of_getElem? (i := 910) (by decide +kernel), List.mem_of_getElem? (i := 911) (by decide +kernel)⟩
theorem lw_p50 : lw_okq (⟨"SheetKernelModel", "isTaken", "(I)Z"⟩, 22) := ⟨⟨by decide +kernel, by decide +kernel⟩, List.mem_of_getElem? (i := 718) (by decide +kernel), List.mem_of_getElem? (i := 914) (by decide +kernel), List.mem_of_getElem? (i := 915) (by decide +kernel)⟩
theorem lw_p51 : lw_okq (⟨"SheetKernelModel", "writeSlot", "()I"⟩, 22) := ⟨⟨by decide +kernel, by decide +kernel⟩, List.mem_of_getElem? (i := 718) (by decide +kernel), List.mem_of_getElem? (i := 918) (by decide +kernel), List.mem_of_getElem? (i := 919) (by decide +kernel)⟩
theorem lw_p52 : lw_okq (⟨"SheetKernelModel", "isValuable", "(I)Z"⟩, 22) := ⟨⟨by decide +kernel, by decide +kernel⟩, List.mem_of_getElem? (i := 718) (by decide +kernel), List.mem_of_getElem? (i := 922) (by decide +kernel), List.mem_of_getElem? (i := 923) (by decide +kernel)⟩
theorem lw_p53 : lw_okq (⟨"SheetKernelModel", "goOn", "(I)V"⟩, 22) := ⟨⟨by decide +kernel, by decide +kernel⟩, List.mem_of_getElem? (i := 718) (by decide +kernel), List.mem_of_getElem? (i := 926) (by decide +kernel), List.mem_of_getElem? (i := 927) (by decide +kernel)⟩
theorem lw_p54 : lw_okq (⟨"SheetKernelModel", "victim", "(I)I"⟩, 22) := ⟨⟨by decide +kernel, by decide +kernel⟩, List.mem_of_getElem? (i := 718) (by decide +kernel), List.mem_of_getElem? (i := 930) (by decide +kernel), List.mem_of_getElem? (i := 931) (by decide +kernel)⟩
theorem lw_p55 : lw_okq (⟨"SheetKernelModel", "privates", "(I)I"⟩, 22) := ⟨⟨by decide +kernel, by decide +kernel⟩, List.mem_of_getElem? (i := 718) (by decide +kernel), List.mem_of_getElem? (i := 934) (by decide +kernel), List.mem_of_getElem? (i := 935) (by decide +kernel)⟩
theorem lw_p56 : lw_okq (⟨"SheetKernelModel", "step", "(I)V"⟩, 22) := ⟨⟨by decide +kernel, by decide +kernel⟩, List.mem_of_getElem? (i := 718) (by decide +kernel), List.mem_of_getElem? (i := 950) (by decide +kernel), List.mem_of_getElem? (i := 951) (by decide +kernel)⟩
theorem lw_p57 : lw_okq (⟨"SheetKernelModel", "reaches", "(IIZ)Z"⟩, 22) := ⟨⟨by decide +kernel, by decide +kernel⟩, List.mem_of_getElem? (i := 718) (by decide +kernel), List.mem_of_getElem? (i := 954) (by decide +kernel), List.mem_of_getElem? (i := 955) (by decide +kernel)⟩
theorem lw_p58 : lw_okq (⟨"SheetKernelModel", "freeFrames", "()I"⟩, 22) := ⟨⟨by decide +kernel, by decide +kernel⟩, List.mem_of_getElem? (i := 718) (by decide +kernel), List.mem_of_getElem? (i := 970) (by decide +kernel), List.mem_of_getElem? (i := 971) (by decide +kernel)⟩
def lw_privs_4 : List (MethodName × Nat) := [(⟨"SheetKernelModel", "packs", "(I)I"⟩, 22), (⟨"SheetKernelModel", "room", "(I)I"⟩, 22), (⟨"SheetKernelModel", "isTaken", "(I)Z"⟩, 22), (⟨"SheetKernelModel", "writeSlot", "()I"⟩, 22), (⟨"SheetKernelModel", "isValuable", "(I)Z"⟩, 22), (⟨"SheetKernelModel", "goOn", "(I)V"⟩, 22), (⟨"SheetKernelModel", "victim", "(I)I"⟩, 22), (⟨"SheetKernelModel", "privates", "(I)I"⟩, 22), (⟨"SheetKernelModel", "step", "(I)V"⟩, 22), (⟨"SheetKernelModel", "reaches", "(IIZ)Z"⟩, 22), (⟨"SheetKernelModel", "freeFrames", "()I"⟩, 22)]
theorem lw_r4 : ∀ q ∈ lw_privs_4, lw_okq q := List.forall_mem_cons.mpr ⟨lw_p48, List.forall_mem_cons.mpr ⟨lw_p49, List.forall_mem_cons.mpr ⟨lw_p50, List.forall_mem_cons.mpr ⟨lw_p51, List.forall_mem_cons.mpr ⟨lw_p52, List.forall_mem_cons.mpr ⟨lw_p53, List.forall_mem_cons.mpr ⟨lw_p54, List.forall_mem_cons.mpr ⟨lw_p55, List.forall_mem_cons.mpr ⟨lw_p56, List.forall_mem_cons.mpr ⟨lw_p57, List.forall_mem_cons.mpr ⟨lw_p58, fun _ h => absurd h List.not_mem_nil⟩⟩⟩⟩⟩⟩⟩⟩⟩⟩⟩
def lw_privs : List (MethodName × Nat) := lw_privs_1 ++ (lw_privs_2 ++ (lw_privs_3 ++ (lw_privs_4)))
def lw_tbl : List Cond := k2_sels lw_privs ++ tables_1
theorem lw_privs_ok : ∀ q ∈ lw_privs, lw_okq q := by
  show ∀ q ∈ lw_privs_1 ++ (lw_privs_2 ++ (lw_privs_3 ++ (lw_privs_4))), lw_okq q
  exact List.forall_mem_append.mpr ⟨lw_r1, List.forall_mem_append.mpr ⟨lw_r2, List.forall_mem_append.mpr ⟨lw_r3, lw_r4⟩⟩⟩
def RX0 : String := "SheetKernel$Arena"
def TX0 : u_T := fun k => match k with
  | 0 => ("SheetKernel$Arena", "taken", "[Z", true)
  | 1 => ("SheetKernel$Arena", "claims", "[I", true)
  | _ => ("SheetKernel$Arena", "packed", "I", false)
def tyX0 : Nat → FieldType := fun k => match k with
  | 0 => .array .boolean
  | 1 => .array .int
  | _ => .int
abbrev wsX00 : List Cond := u_ws RX0 TX0 3
theorem nmX0 : ∀ a, a < 3 → ∀ b, b < 3 → a ≠ b → (TX0 a).2.1 ≠ (TX0 b).2.1 := by decide +kernel
theorem tyX0_ok : ∀ k, k < 3 → parseFieldDescriptor (TX0 k).2.2.1 = some (tyX0 k) := by decide +kernel
abbrev cX0_init : ByteArray := prog_2_method_1_code
def yX0_init : MethodName := ⟨RX0, "<init>", "()V"⟩
abbrev cX0_pack : ByteArray := prog_2_method_2_code
def yX0_pack : MethodName := ⟨RX0, "pack", "(LSheetKernel$Sheet;)Z"⟩
abbrev cX0_unpack : ByteArray := prog_2_method_3_code
def yX0_unpack : MethodName := ⟨RX0, "unpack", "(LSheetKernel$Sheet;)V"⟩
abbrev cX0_lowestRow : ByteArray := prog_2_method_4_code
def yX0_lowestRow : MethodName := ⟨RX0, "lowestRow", "(I)I"⟩
abbrev cX0_longestRow : ByteArray := prog_2_method_5_code
def yX0_longestRow : MethodName := ⟨RX0, "longestRow", "()I"⟩
abbrev cX0_takenBytes : ByteArray := prog_2_method_6_code
def yX0_takenBytes : MethodName := ⟨RX0, "takenBytes", "()I"⟩
abbrev cX0_clearClaims : ByteArray := prog_2_method_7_code
def yX0_clearClaims : MethodName := ⟨RX0, "clearClaims", "()V"⟩
abbrev cX0_claim : ByteArray := prog_2_method_8_code
def yX0_claim : MethodName := ⟨RX0, "claim", "(LSheetKernel$Sheet;)V"⟩
abbrev cX0_wrongClaims : ByteArray := prog_2_method_9_code
def yX0_wrongClaims : MethodName := ⟨RX0, "wrongClaims", "()I"⟩
def RX1 : String := "SheetKernel$Disk"
def TX1 : u_T := fun k => match k with
  | 0 => ("SheetKernel$Disk", "state", "[I", true)
  | 1 => ("SheetKernel$Disk", "fails", "[Z", true)
  | 2 => ("SheetKernel$Disk", "lost", "[Z", true)
  | _ => ("SheetKernel$Disk", "claims", "[I", true)
def tyX1 : Nat → FieldType := fun k => match k with
  | 0 => .array .int
  | 1 => .array .boolean
  | 2 => .array .boolean
  | _ => .array .int
abbrev wsX10 : List Cond := u_ws RX1 TX1 4
theorem nmX1 : ∀ a, a < 4 → ∀ b, b < 4 → a ≠ b → (TX1 a).2.1 ≠ (TX1 b).2.1 := by decide +kernel
theorem tyX1_ok : ∀ k, k < 4 → parseFieldDescriptor (TX1 k).2.2.1 = some (tyX1 k) := by decide +kernel
abbrev cX1_init : ByteArray := prog_3_method_1_code
def yX1_init : MethodName := ⟨RX1, "<init>", "()V"⟩
abbrev cX1_countFree : ByteArray := prog_3_method_2_code
def yX1_countFree : MethodName := ⟨RX1, "countFree", "()I"⟩
abbrev cX1_mend : ByteArray := prog_3_method_3_code
def yX1_mend : MethodName := ⟨RX1, "mend", "(I)V"⟩
abbrev cX1_takeLowest : ByteArray := prog_3_method_4_code
def yX1_takeLowest : MethodName := ⟨RX1, "takeLowest", "()I"⟩
abbrev cX1_isGone : ByteArray := prog_3_method_5_code
def yX1_isGone : MethodName := ⟨RX1, "isGone", "(I)Z"⟩
abbrev cX1_release : ByteArray := prog_3_method_6_code
def yX1_release : MethodName := ⟨RX1, "release", "(I)V"⟩
abbrev cX1_giveBack : ByteArray := prog_3_method_7_code
def yX1_giveBack : MethodName := ⟨RX1, "giveBack", "(LSheetKernel$Sheet;)V"⟩
abbrev cX1_giveBackLost : ByteArray := prog_3_method_8_code
def yX1_giveBackLost : MethodName := ⟨RX1, "giveBackLost", "(LSheetKernel$Sheet;)V"⟩
abbrev cX1_clearClaims : ByteArray := prog_3_method_9_code
def yX1_clearClaims : MethodName := ⟨RX1, "clearClaims", "()V"⟩
abbrev cX1_claim : ByteArray := prog_3_method_10_code
def yX1_claim : MethodName := ⟨RX1, "claim", "(I)V"⟩
abbrev cX1_wrongClaims : ByteArray := prog_3_method_11_code
def yX1_wrongClaims : MethodName := ⟨RX1, "wrongClaims", "()I"⟩
def RX2 : String := "SheetKernel$Frames"
def TX2 : u_T := fun k => match k with
  | 0 => ("SheetKernel$Frames", "sheets", "[LSheetKernel$Sheet;", true)
  | 1 => ("SheetKernel$Frames", "used", "[Z", true)
  | 2 => ("SheetKernel$Frames", "changed", "[Z", true)
  | _ => ("SheetKernel$Frames", "hand", "I", false)
def tyX2 : Nat → FieldType := fun k => match k with
  | 0 => .array (.object "SheetKernel$Sheet")
  | 1 => .array .boolean
  | 2 => .array .boolean
  | _ => .int
abbrev wsX20 : List Cond := u_ws RX2 TX2 4
theorem nmX2 : ∀ a, a < 4 → ∀ b, b < 4 → a ≠ b → (TX2 a).2.1 ≠ (TX2 b).2.1 := by decide +kernel
theorem tyX2_ok : ∀ k, k < 4 → parseFieldDescriptor (TX2 k).2.2.1 = some (tyX2 k) := by decide +kernel
abbrev cX2_init : ByteArray := prog_4_method_1_code
def yX2_init : MethodName := ⟨RX2, "<init>", "()V"⟩
abbrev cX2_vacant : ByteArray := prog_4_method_2_code
def yX2_vacant : MethodName := ⟨RX2, "vacant", "()I"⟩
abbrev cX2_lowestVacant : ByteArray := prog_4_method_3_code
def yX2_lowestVacant : MethodName := ⟨RX2, "lowestVacant", "()I"⟩
abbrev cX2_seat : ByteArray := prog_4_method_4_code
def yX2_seat : MethodName := ⟨RX2, "seat", "(LSheetKernel$Sheet;I)V"⟩
abbrev cX2_touched : ByteArray := prog_4_method_5_code
def yX2_touched : MethodName := ⟨RX2, "touched", "(IZ)V"⟩
abbrev cX2_vacate : ByteArray := prog_4_method_6_code
def yX2_vacate : MethodName := ⟨RX2, "vacate", "(I)V"⟩
abbrev cX2_unmark : ByteArray := prog_4_method_7_code
def yX2_unmark : MethodName := ⟨RX2, "unmark", "(I)Z"⟩
abbrev cX2_moveHand : ByteArray := prog_4_method_8_code
def yX2_moveHand : MethodName := ⟨RX2, "moveHand", "(I)V"⟩
def RX3 : String := "SheetKernel$Sheet"
def TX3 : u_T := fun k => match k with
  | 0 => ("SheetKernel$Sheet", "words", "[I", true)
  | 1 => ("SheetKernel$Sheet", "mappings", "I", false)
  | 2 => ("SheetKernel$Sheet", "place", "I", false)
  | 3 => ("SheetKernel$Sheet", "at", "I", false)
  | 4 => ("SheetKernel$Sheet", "bytes", "I", false)
  | 5 => ("SheetKernel$Sheet", "lower", "I", false)
  | 6 => ("SheetKernel$Sheet", "upper", "I", false)
  | _ => ("SheetKernel$Sheet", "seen", "I", false)
def tyX3 : Nat → FieldType := fun k => match k with
  | 0 => .array .int
  | 1 => .int
  | 2 => .int
  | 3 => .int
  | 4 => .int
  | 5 => .int
  | 6 => .int
  | _ => .int
abbrev wsX30 : List Cond := u_ws RX3 TX3 8
theorem nmX3 : ∀ a, a < 8 → ∀ b, b < 8 → a ≠ b → (TX3 a).2.1 ≠ (TX3 b).2.1 := by decide +kernel
theorem tyX3_ok : ∀ k, k < 8 → parseFieldDescriptor (TX3 k).2.2.1 = some (tyX3 k) := by decide +kernel
abbrev cX3_init : ByteArray := prog_5_method_1_code
def yX3_init : MethodName := ⟨RX3, "<init>", "()V"⟩
abbrev cX3_clear : ByteArray := prog_5_method_2_code
def yX3_clear : MethodName := ⟨RX3, "clear", "()V"⟩
abbrev cX3_faultKind : ByteArray := prog_5_method_3_code
def yX3_faultKind : MethodName := ⟨RX3, "faultKind", "()I"⟩
abbrev cX3_packedBytes : ByteArray := prog_5_method_4_code
def yX3_packedBytes : MethodName := ⟨RX3, "packedBytes", "()I"⟩
abbrev cX3_told : ByteArray := prog_5_method_5_code
def yX3_told : MethodName := ⟨RX3, "told", "(I)I"⟩
def RX4 : String := "SheetKernel$Sheets"
def TX4 : u_T := fun k => match k with
  | 0 => ("SheetKernel$Sheets", "all", "[LSheetKernel$Sheet;", true)
  | 1 => ("SheetKernel$Sheets", "spare", "[LSheetKernel$Sheet;", true)
  | _ => ("SheetKernel$Sheets", "spares", "I", false)
def tyX4 : Nat → FieldType := fun k => match k with
  | 0 => .array (.object "SheetKernel$Sheet")
  | 1 => .array (.object "SheetKernel$Sheet")
  | _ => .int
abbrev wsX40 : List Cond := u_ws RX4 TX4 3
theorem nmX4 : ∀ a, a < 3 → ∀ b, b < 3 → a ≠ b → (TX4 a).2.1 ≠ (TX4 b).2.1 := by decide +kernel
theorem tyX4_ok : ∀ k, k < 3 → parseFieldDescriptor (TX4 k).2.2.1 = some (tyX4 k) := by decide +kernel
abbrev cX4_init : ByteArray := prog_6_method_1_code
def yX4_init : MethodName := ⟨RX4, "<init>", "()V"⟩
abbrev cX4_take : ByteArray := prog_6_method_2_code
def yX4_take : MethodName := ⟨RX4, "take", "()LSheetKernel$Sheet;"⟩
abbrev cX4_giveBack : ByteArray := prog_6_method_3_code
def yX4_giveBack : MethodName := ⟨RX4, "giveBack", "(LSheetKernel$Sheet;)V"⟩
def RX5 : String := "SheetKernel$Task"
def TX5 : u_T := fun k => match k with
  | 0 => ("SheetKernel$Task", "registers", "[I", true)
  | 1 => ("SheetKernel$Task", "faults", "[I", true)
  | 2 => ("SheetKernel$Task", "kinds", "[I", true)
  | 3 => ("SheetKernel$Task", "sheets", "[LSheetKernel$Sheet;", true)
  | 4 => ("SheetKernel$Task", "lives", "Z", false)
  | 5 => ("SheetKernel$Task", "valuable", "Z", false)
  | 6 => ("SheetKernel$Task", "counter", "I", false)
  | _ => ("SheetKernel$Task", "reason", "I", false)
def tyX5 : Nat → FieldType := fun k => match k with
  | 0 => .array .int
  | 1 => .array .int
  | 2 => .array .int
  | 3 => .array (.object "SheetKernel$Sheet")
  | 4 => .boolean
  | 5 => .boolean
  | 6 => .int
  | _ => .int
abbrev wsX50 : List Cond := u_ws RX5 TX5 8
theorem nmX5 : ∀ a, a < 8 → ∀ b, b < 8 → a ≠ b → (TX5 a).2.1 ≠ (TX5 b).2.1 := by decide +kernel
theorem tyX5_ok : ∀ k, k < 8 → parseFieldDescriptor (TX5 k).2.2.1 = some (tyX5 k) := by decide +kernel
abbrev cX5_init : ByteArray := prog_7_method_1_code
def yX5_init : MethodName := ⟨RX5, "<init>", "()V"⟩
abbrev cX5_begin : ByteArray := prog_7_method_2_code
def yX5_begin : MethodName := ⟨RX5, "begin", "()V"⟩
abbrev cX5_map : ByteArray := prog_7_method_3_code
def yX5_map : MethodName := ⟨RX5, "map", "(ILSheetKernel$Sheet;I)V"⟩
abbrev cX5_sheetFor : ByteArray := prog_7_method_4_code
def yX5_sheetFor : MethodName := ⟨RX5, "sheetFor", "(II)LSheetKernel$Sheet;"⟩
abbrev cX5_mayMapAgain : ByteArray := prog_7_method_5_code
def yX5_mayMapAgain : MethodName := ⟨RX5, "mayMapAgain", "(II)Z"⟩
abbrev cX5_mappedPages : ByteArray := prog_7_method_6_code
def yX5_mappedPages : MethodName := ⟨RX5, "mappedPages", "()I"⟩
abbrev cX5_ownPages : ByteArray := prog_7_method_7_code
def yX5_ownPages : MethodName := ⟨RX5, "ownPages", "()I"⟩
abbrev cX5_told : ByteArray := prog_7_method_8_code
def yX5_told : MethodName := ⟨RX5, "told", "(I)I"⟩
def RX6 : String := "SheetKernel"
def TX6 : u_T := fun k => match k with
  | 0 => ("SheetKernel", "tasks", "[LSheetKernel$Task;", true)
  | 1 => ("SheetKernel", "store", "LSheetKernel$Sheets;", true)
  | 2 => ("SheetKernel", "frames", "LSheetKernel$Frames;", true)
  | 3 => ("SheetKernel", "arena", "LSheetKernel$Arena;", true)
  | _ => ("SheetKernel", "disk", "LSheetKernel$Disk;", true)
def tyX6 : Nat → FieldType := fun k => match k with
  | 0 => .array (.object "SheetKernel$Task")
  | 1 => .object "SheetKernel$Sheets"
  | 2 => .object "SheetKernel$Frames"
  | 3 => .object "SheetKernel$Arena"
  | _ => .object "SheetKernel$Disk"
abbrev wsX60 : List Cond := u_ws RX6 TX6 5
theorem nmX6 : ∀ a, a < 5 → ∀ b, b < 5 → a ≠ b → (TX6 a).2.1 ≠ (TX6 b).2.1 := by decide +kernel
theorem tyX6_ok : ∀ k, k < 5 → parseFieldDescriptor (TX6 k).2.2.1 = some (tyX6 k) := by decide +kernel
abbrev cX6_init : ByteArray := prog_1_method_1_code
def yX6_init : MethodName := ⟨RX6, "<init>", "()V"⟩
abbrev cX6_spawn : ByteArray := prog_1_method_2_code
def yX6_spawn : MethodName := ⟨RX6, "spawn", "()I"⟩
abbrev cX6_area : ByteArray := prog_1_method_3_code
def yX6_area : MethodName := ⟨RX6, "area", "(IIII)V"⟩
abbrev cX6_share : ByteArray := prog_1_method_4_code
def yX6_share : MethodName := ⟨RX6, "share", "(IIIII)V"⟩
abbrev cX6_free : ByteArray := prog_1_method_5_code
def yX6_free : MethodName := ⟨RX6, "free", "(III)V"⟩
abbrev cX6_fork : ByteArray := prog_1_method_6_code
def yX6_fork : MethodName := ⟨RX6, "fork", "(I)I"⟩
abbrev cX6_exit : ByteArray := prog_1_method_7_code
def yX6_exit : MethodName := ⟨RX6, "exit", "(I)V"⟩
abbrev cX6_valuable : ByteArray := prog_1_method_8_code
def yX6_valuable : MethodName := ⟨RX6, "valuable", "(IZ)V"⟩
abbrev cX6_read : ByteArray := prog_1_method_9_code
def yX6_read : MethodName := ⟨RX6, "read", "(II)I"⟩
abbrev cX6_write : ByteArray := prog_1_method_10_code
def yX6_write : MethodName := ⟨RX6, "write", "(III)V"⟩
abbrev cX6_load : ByteArray := prog_1_method_11_code
def yX6_load : MethodName := ⟨RX6, "load", "(III)V"⟩
abbrev cX6_run : ByteArray := prog_1_method_12_code
def yX6_run : MethodName := ⟨RX6, "run", "(II)I"⟩
abbrev cX6_slot : ByteArray := prog_1_method_13_code
def yX6_slot : MethodName := ⟨RX6, "slot", "(II)V"⟩
abbrev cX6_tick : ByteArray := prog_1_method_14_code
def yX6_tick : MethodName := ⟨RX6, "tick", "()V"⟩
abbrev cX6_about : ByteArray := prog_1_method_15_code
def yX6_about : MethodName := ⟨RX6, "about", "(II)I"⟩
abbrev cX6_page : ByteArray := prog_1_method_16_code
def yX6_page : MethodName := ⟨RX6, "page", "(III)I"⟩
abbrev cX6_frame : ByteArray := prog_1_method_17_code
def yX6_frame : MethodName := ⟨RX6, "frame", "(I)I"⟩
abbrev cX6_slots : ByteArray := prog_1_method_18_code
def yX6_slots : MethodName := ⟨RX6, "slots", "(I)I"⟩
abbrev cX6_pool : ByteArray := prog_1_method_19_code
def yX6_pool : MethodName := ⟨RX6, "pool", "(I)I"⟩
abbrev cX6_broken : ByteArray := prog_1_method_20_code
def yX6_broken : MethodName := ⟨RX6, "broken", "()I"⟩
abbrev cX6_living : ByteArray := prog_1_method_21_code
def yX6_living : MethodName := ⟨RX6, "living", "(I)LSheetKernel$Task;"⟩
abbrev cX6_needPage : ByteArray := prog_1_method_22_code
def yX6_needPage : MethodName := ⟨RX6, "needPage", "(I)V"⟩
abbrev cX6_needAddress : ByteArray := prog_1_method_23_code
def yX6_needAddress : MethodName := ⟨RX6, "needAddress", "(I)V"⟩
abbrev cX6_needCount : ByteArray := prog_1_method_24_code
def yX6_needCount : MethodName := ⟨RX6, "needCount", "(I)V"⟩
abbrev cX6_needUnmapped : ByteArray := prog_1_method_25_code
def yX6_needUnmapped : MethodName := ⟨RX6, "needUnmapped", "(LSheetKernel$Task;II)V"⟩
abbrev cX6_needMapped : ByteArray := prog_1_method_26_code
def yX6_needMapped : MethodName := ⟨RX6, "needMapped", "(LSheetKernel$Task;II)V"⟩
abbrev cX6_needShared : ByteArray := prog_1_method_27_code
def yX6_needShared : MethodName := ⟨RX6, "needShared", "(LSheetKernel$Task;II)V"⟩
abbrev cX6_lowestNotLiving : ByteArray := prog_1_method_28_code
def yX6_lowestNotLiving : MethodName := ⟨RX6, "lowestNotLiving", "()I"⟩
abbrev cX6_doubled : ByteArray := prog_1_method_29_code
def yX6_doubled : MethodName := ⟨RX6, "doubled", "(LSheetKernel$Task;)I"⟩
abbrev cX6_endTask : ByteArray := prog_1_method_30_code
def yX6_endTask : MethodName := ⟨RX6, "endTask", "(LSheetKernel$Task;I)V"⟩
abbrev cX6_unmap : ByteArray := prog_1_method_31_code
def yX6_unmap : MethodName := ⟨RX6, "unmap", "(LSheetKernel$Task;I)V"⟩
abbrev cX6_touch : ByteArray := prog_1_method_32_code
def yX6_touch : MethodName := ⟨RX6, "touch", "(LSheetKernel$Task;II)LSheetKernel$Sheet;"⟩
abbrev cX6_startFault : ByteArray := prog_1_method_33_code
def yX6_startFault : MethodName := ⟨RX6, "startFault", "(LSheetKernel$Task;LSheetKernel$Sheet;)Z"⟩
abbrev cX6_bringIn : ByteArray := prog_1_method_34_code
def yX6_bringIn : MethodName := ⟨RX6, "bringIn", "(LSheetKernel$Sheet;I)V"⟩
abbrev cX6_copyInto : ByteArray := prog_1_method_35_code
def yX6_copyInto : MethodName := ⟨RX6, "copyInto", "(LSheetKernel$Task;II)LSheetKernel$Sheet;"⟩
abbrev cX6_findFrame : ByteArray := prog_1_method_36_code
def yX6_findFrame : MethodName := ⟨RX6, "findFrame", "(LSheetKernel$Task;I)I"⟩
abbrev cX6_putAway : ByteArray := prog_1_method_37_code
def yX6_putAway : MethodName := ⟨RX6, "putAway", "(I)Z"⟩
abbrev cX6_storeInSlots : ByteArray := prog_1_method_38_code
def yX6_storeInSlots : MethodName := ⟨RX6, "storeInSlots", "(LSheetKernel$Sheet;)Z"⟩
abbrev cX6_isValuable : ByteArray := prog_1_method_39_code
def yX6_isValuable : MethodName := ⟨RX6, "isValuable", "(LSheetKernel$Sheet;)Z"⟩
abbrev cX6_whoEnds : ByteArray := prog_1_method_40_code
def yX6_whoEnds : MethodName := ⟨RX6, "whoEnds", "(LSheetKernel$Task;)LSheetKernel$Task;"⟩
abbrev cX6_put : ByteArray := prog_1_method_41_code
def yX6_put : MethodName := ⟨RX6, "put", "(IIII)V"⟩
abbrev cX6_throwUntouched : ByteArray := prog_1_method_42_code
def yX6_throwUntouched : MethodName := ⟨RX6, "throwUntouched", "(LSheetKernel$Task;)V"⟩
abbrev cX6_perform : ByteArray := prog_1_method_43_code
def yX6_perform : MethodName := ⟨RX6, "perform", "(LSheetKernel$Task;I)V"⟩
abbrev cX6_forkInto : ByteArray := prog_1_method_44_code
def yX6_forkInto : MethodName := ⟨RX6, "forkInto", "(LSheetKernel$Task;I)V"⟩
abbrev cX6_endRefused : ByteArray := prog_1_method_45_code
def yX6_endRefused : MethodName := ⟨RX6, "endRefused", "(LSheetKernel$Task;)V"⟩
abbrev cX6_countPages : ByteArray := prog_1_method_46_code
def yX6_countPages : MethodName := ⟨RX6, "countPages", "()V"⟩
def RX7 : String := "SheetKernelModel"
def TX7 : u_T := fun k => match k with
  | 0 => ("SheetKernelModel", "thrown", "I", false)
  | 1 => ("SheetKernelModel", "lives", "[Z", true)
  | 2 => ("SheetKernelModel", "valued", "[Z", true)
  | 3 => ("SheetKernelModel", "reason", "[I", true)
  | 4 => ("SheetKernelModel", "counter", "[I", true)
  | 5 => ("SheetKernelModel", "registers", "[I", true)
  | 6 => ("SheetKernelModel", "faults", "[I", true)
  | 7 => ("SheetKernelModel", "sheet", "[I", true)
  | 8 => ("SheetKernelModel", "kind", "[I", true)
  | 9 => ("SheetKernelModel", "where", "[I", true)
  | 10 => ("SheetKernelModel", "first", "[I", true)
  | 11 => ("SheetKernelModel", "packed", "[I", true)
  | 12 => ("SheetKernelModel", "words", "[I", true)
  | 13 => ("SheetKernelModel", "isSheet", "[Z", true)
  | 14 => ("SheetKernelModel", "frames", "[I", true)
  | 15 => ("SheetKernelModel", "used", "[Z", true)
  | 16 => ("SheetKernelModel", "changed", "[Z", true)
  | 17 => ("SheetKernelModel", "hand", "I", false)
  | 18 => ("SheetKernelModel", "slotOf", "[I", true)
  | 19 => ("SheetKernelModel", "isBad", "[Z", true)
  | 20 => ("SheetKernelModel", "fails", "[Z", true)
  | _ => ("SheetKernelModel", "isLost", "[Z", true)
def tyX7 : Nat → FieldType := fun k => match k with
  | 0 => .int
  | 1 => .array .boolean
  | 2 => .array .boolean
  | 3 => .array .int
  | 4 => .array .int
  | 5 => .array .int
  | 6 => .array .int
  | 7 => .array .int
  | 8 => .array .int
  | 9 => .array .int
  | 10 => .array .int
  | 11 => .array .int
  | 12 => .array .int
  | 13 => .array .boolean
  | 14 => .array .int
  | 15 => .array .boolean
  | 16 => .array .boolean
  | 17 => .int
  | 18 => .array .int
  | 19 => .array .boolean
  | 20 => .array .boolean
  | _ => .array .boolean
abbrev wsX70 : List Cond := u_ws RX7 TX7 22
theorem nmX7 : ∀ a, a < 22 → ∀ b, b < 22 → a ≠ b → (TX7 a).2.1 ≠ (TX7 b).2.1 := by decide +kernel
theorem tyX7_ok : ∀ k, k < 22 → parseFieldDescriptor (TX7 k).2.2.1 = some (tyX7 k) := by decide +kernel
abbrev cX7_init : ByteArray := prog_9_method_1_code
def yX7_init : MethodName := ⟨RX7, "<init>", "()V"⟩
abbrev cX7_mappings : ByteArray := prog_9_method_3_code
def yX7_mappings : MethodName := ⟨RX7, "mappings", "(I)I"⟩
abbrev cX7_frameOf : ByteArray := prog_9_method_4_code
def yX7_frameOf : MethodName := ⟨RX7, "frameOf", "(I)I"⟩
abbrev cX7_newSheet : ByteArray := prog_9_method_5_code
def yX7_newSheet : MethodName := ⟨RX7, "newSheet", "()I"⟩
abbrev cX7_freeSlot : ByteArray := prog_9_method_6_code
def yX7_freeSlot : MethodName := ⟨RX7, "freeSlot", "(I)V"⟩
abbrev cX7_freeSlots : ByteArray := prog_9_method_7_code
def yX7_freeSlots : MethodName := ⟨RX7, "freeSlots", "(I)V"⟩
abbrev cX7_slotNumber : ByteArray := prog_9_method_8_code
def yX7_slotNumber : MethodName := ⟨RX7, "slotNumber", "(II)I"⟩
abbrev cX7_clearFrame : ByteArray := prog_9_method_9_code
def yX7_clearFrame : MethodName := ⟨RX7, "clearFrame", "(I)V"⟩
abbrev cX7_unmap : ByteArray := prog_9_method_10_code
def yX7_unmap : MethodName := ⟨RX7, "unmap", "(I)V"⟩
abbrev cX7_end : ByteArray := prog_9_method_11_code
def yX7_end : MethodName := ⟨RX7, "end", "(II)V"⟩
abbrev cX7_packs : ByteArray := prog_9_method_12_code
def yX7_packs : MethodName := ⟨RX7, "packs", "(I)I"⟩
abbrev cX7_isTaken : ByteArray := prog_9_method_13_code
def yX7_isTaken : MethodName := ⟨RX7, "isTaken", "(I)Z"⟩
abbrev cX7_room : ByteArray := prog_9_method_14_code
def yX7_room : MethodName := ⟨RX7, "room", "(I)I"⟩
abbrev cX7_isValuable : ByteArray := prog_9_method_15_code
def yX7_isValuable : MethodName := ⟨RX7, "isValuable", "(I)Z"⟩
abbrev cX7_writeSlot : ByteArray := prog_9_method_16_code
def yX7_writeSlot : MethodName := ⟨RX7, "writeSlot", "()I"⟩
abbrev cX7_empty : ByteArray := prog_9_method_17_code
def yX7_empty : MethodName := ⟨RX7, "empty", "(I)Z"⟩
abbrev cX7_goOn : ByteArray := prog_9_method_18_code
def yX7_goOn : MethodName := ⟨RX7, "goOn", "(I)V"⟩
abbrev cX7_privates : ByteArray := prog_9_method_19_code
def yX7_privates : MethodName := ⟨RX7, "privates", "(I)I"⟩
abbrev cX7_victim : ByteArray := prog_9_method_20_code
def yX7_victim : MethodName := ⟨RX7, "victim", "(I)I"⟩
abbrev cX7_findFrame : ByteArray := prog_9_method_21_code
def yX7_findFrame : MethodName := ⟨RX7, "findFrame", "(II)I"⟩
abbrev cX7_fault : ByteArray := prog_9_method_22_code
def yX7_fault : MethodName := ⟨RX7, "fault", "(II)V"⟩
abbrev cX7_isGone : ByteArray := prog_9_method_23_code
def yX7_isGone : MethodName := ⟨RX7, "isGone", "(I)Z"⟩
abbrev cX7_bring : ByteArray := prog_9_method_24_code
def yX7_bring : MethodName := ⟨RX7, "bring", "(II)I"⟩
abbrev cX7_touch : ByteArray := prog_9_method_25_code
def yX7_touch : MethodName := ⟨RX7, "touch", "(IIZZ)I"⟩
abbrev cX7_isNumber : ByteArray := prog_9_method_26_code
def yX7_isNumber : MethodName := ⟨RX7, "isNumber", "(II)Z"⟩
abbrev cX7_isLiving : ByteArray := prog_9_method_27_code
def yX7_isLiving : MethodName := ⟨RX7, "isLiving", "(I)Z"⟩
abbrev cX7_fresh : ByteArray := prog_9_method_28_code
def yX7_fresh : MethodName := ⟨RX7, "fresh", "()I"⟩
abbrev cX7_spawn : ByteArray := prog_9_method_29_code
def yX7_spawn : MethodName := ⟨RX7, "spawn", "()I"⟩
abbrev cX7_areMapped : ByteArray := prog_9_method_30_code
def yX7_areMapped : MethodName := ⟨RX7, "areMapped", "(III)Z"⟩
abbrev cX7_areFree : ByteArray := prog_9_method_31_code
def yX7_areFree : MethodName := ⟨RX7, "areFree", "(III)Z"⟩
abbrev cX7_area : ByteArray := prog_9_method_32_code
def yX7_area : MethodName := ⟨RX7, "area", "(IIII)V"⟩
abbrev cX7_share : ByteArray := prog_9_method_33_code
def yX7_share : MethodName := ⟨RX7, "share", "(IIIII)V"⟩
abbrev cX7_free : ByteArray := prog_9_method_34_code
def yX7_free : MethodName := ⟨RX7, "free", "(III)V"⟩
abbrev cX7_divide : ByteArray := prog_9_method_35_code
def yX7_divide : MethodName := ⟨RX7, "divide", "(I)I"⟩
abbrev cX7_fork : ByteArray := prog_9_method_36_code
def yX7_fork : MethodName := ⟨RX7, "fork", "(I)I"⟩
abbrev cX7_exit : ByteArray := prog_9_method_37_code
def yX7_exit : MethodName := ⟨RX7, "exit", "(I)V"⟩
abbrev cX7_access : ByteArray := prog_9_method_38_code
def yX7_access : MethodName := ⟨RX7, "access", "(IIZZ)I"⟩
abbrev cX7_read : ByteArray := prog_9_method_39_code
def yX7_read : MethodName := ⟨RX7, "read", "(II)I"⟩
abbrev cX7_write : ByteArray := prog_9_method_40_code
def yX7_write : MethodName := ⟨RX7, "write", "(III)V"⟩
abbrev cX7_load : ByteArray := prog_9_method_41_code
def yX7_load : MethodName := ⟨RX7, "load", "(III)V"⟩
abbrev cX7_reaches : ByteArray := prog_9_method_42_code
def yX7_reaches : MethodName := ⟨RX7, "reaches", "(IIZ)Z"⟩
abbrev cX7_step : ByteArray := prog_9_method_43_code
def yX7_step : MethodName := ⟨RX7, "step", "(I)V"⟩
abbrev cX7_run : ByteArray := prog_9_method_44_code
def yX7_run : MethodName := ⟨RX7, "run", "(II)I"⟩
abbrev cX7_slot : ByteArray := prog_9_method_45_code
def yX7_slot : MethodName := ⟨RX7, "slot", "(II)V"⟩
abbrev cX7_valuable : ByteArray := prog_9_method_46_code
def yX7_valuable : MethodName := ⟨RX7, "valuable", "(IZ)V"⟩
abbrev cX7_freeFrames : ByteArray := prog_9_method_47_code
def yX7_freeFrames : MethodName := ⟨RX7, "freeFrames", "()I"⟩
abbrev cX7_tick : ByteArray := prog_9_method_48_code
def yX7_tick : MethodName := ⟨RX7, "tick", "()V"⟩
abbrev cX7_about : ByteArray := prog_9_method_49_code
def yX7_about : MethodName := ⟨RX7, "about", "(II)I"⟩
abbrev cX7_page : ByteArray := prog_9_method_50_code
def yX7_page : MethodName := ⟨RX7, "page", "(III)I"⟩
abbrev cX7_frame : ByteArray := prog_9_method_51_code
def yX7_frame : MethodName := ⟨RX7, "frame", "(I)I"⟩
abbrev cX7_slots : ByteArray := prog_9_method_52_code
def yX7_slots : MethodName := ⟨RX7, "slots", "(I)I"⟩
abbrev cX7_pool : ByteArray := prog_9_method_53_code
def yX7_pool : MethodName := ⟨RX7, "pool", "(I)I"⟩
abbrev cX7_broken : ByteArray := prog_9_method_54_code
def yX7_broken : MethodName := ⟨RX7, "broken", "()I"⟩
def RL : String := "SheetKernelLaw"
abbrev cL_spawn : ByteArray := method_3_code
def yL_spawn : MethodName := ⟨RL, "spawn", "(LSheetKernel;[J)I"⟩
abbrev cL_area : ByteArray := method_4_code
def yL_area : MethodName := ⟨RL, "area", "(LSheetKernel;IIII)I"⟩
abbrev cL_share : ByteArray := method_5_code
def yL_share : MethodName := ⟨RL, "share", "(LSheetKernel;IIIII)I"⟩
abbrev cL_free : ByteArray := method_6_code
def yL_free : MethodName := ⟨RL, "free", "(LSheetKernel;III)I"⟩
abbrev cL_fork : ByteArray := method_7_code
def yL_fork : MethodName := ⟨RL, "fork", "(LSheetKernel;I[J)I"⟩
abbrev cL_exit : ByteArray := method_8_code
def yL_exit : MethodName := ⟨RL, "exit", "(LSheetKernel;I)I"⟩
abbrev cL_read : ByteArray := method_9_code
def yL_read : MethodName := ⟨RL, "read", "(LSheetKernel;II[J)I"⟩
abbrev cL_write : ByteArray := method_10_code
def yL_write : MethodName := ⟨RL, "write", "(LSheetKernel;III)I"⟩
abbrev cL_load : ByteArray := method_11_code
def yL_load : MethodName := ⟨RL, "load", "(LSheetKernel;III)I"⟩
abbrev cL_run : ByteArray := method_12_code
def yL_run : MethodName := ⟨RL, "run", "(LSheetKernel;II[J)I"⟩
abbrev cL_slot : ByteArray := method_13_code
def yL_slot : MethodName := ⟨RL, "slot", "(LSheetKernel;II)I"⟩
abbrev cL_valuable : ByteArray := method_14_code
def yL_valuable : MethodName := ⟨RL, "valuable", "(LSheetKernel;IZ)I"⟩
abbrev cL_law : ByteArray := code
def yL_law : MethodName := ⟨RL, "law", "([I)Z"⟩
abbrev vwCl : List vw_C := [(RX0, TX0, 3), (RX1, TX1, 4), (RX2, TX2, 4), (RX3, TX3, 8), (RX4, TX4, 3), (RX5, TX5, 8), (RX6, TX6, 5), (RX7, TX7, 22)]
