section
-- ===== PART A: goes FIRST, ahead of the names: the tables' words, and 'selects' of the private methods out of them =====
/-- a private method of a class that the tables say can be made, by its rows of tables_1 -/
def lw_okq (q : MethodName × Nat) : Prop := (q.1.cls ≠ "java/lang/invoke/MethodHandle" ∧ q.1.cls ≠ "java/lang/invoke/VarHandle") ∧ Cond.instantiable q.1.cls q.2 ∈ tables_1 ∧ Cond.privateMethod q.1 ∈ tables_1 ∧ Cond.instanceMethod q.1 ∈ tables_1
theorem lw_p0 : lw_okq (⟨"RingPlanes$History", "dropOldest", "()V"⟩, 3) := ⟨⟨by decide +kernel, by decide +kernel⟩, List.mem_of_getElem? (i := 64) (by decide +kernel), List.mem_of_getElem? (i := 149) (by decide +kernel), List.mem_of_getElem? (i := 150) (by decide +kernel)⟩
theorem lw_p1 : lw_okq (⟨"RingPlanes$Ring", "isSquare", "(I)Z"⟩, 2) := ⟨⟨by decide +kernel, by decide +kernel⟩, List.mem_of_getElem? (i := 27) (by decide +kernel), List.mem_of_getElem? (i := 166) (by decide +kernel), List.mem_of_getElem? (i := 167) (by decide +kernel)⟩
theorem lw_p2 : lw_okq (⟨"RingPlanes$Plane", "pointBeside", "(III)I"⟩, 1) := ⟨⟨by decide +kernel, by decide +kernel⟩, List.mem_of_getElem? (i := 21) (by decide +kernel), List.mem_of_getElem? (i := 318) (by decide +kernel), List.mem_of_getElem? (i := 319) (by decide +kernel)⟩
theorem lw_p3 : lw_okq (⟨"RingPlanes$Plane", "onOneLine", "(III)Z"⟩, 1) := ⟨⟨by decide +kernel, by decide +kernel⟩, List.mem_of_getElem? (i := 21) (by decide +kernel), List.mem_of_getElem? (i := 322) (by decide +kernel), List.mem_of_getElem? (i := 323) (by decide +kernel)⟩
theorem lw_p4 : lw_okq (⟨"RingPlanes$Plane", "crossing", "(IIII)I"⟩, 1) := ⟨⟨by decide +kernel, by decide +kernel⟩, List.mem_of_getElem? (i := 21) (by decide +kernel), List.mem_of_getElem? (i := 327) (by decide +kernel), List.mem_of_getElem? (i := 328) (by decide +kernel)⟩
theorem lw_p5 : lw_okq (⟨"RingPlanes$Mirrors", "layRays", "(LRingPlanes$Plane;II)V"⟩, 6) := ⟨⟨by decide +kernel, by decide +kernel⟩, List.mem_of_getElem? (i := 96) (by decide +kernel), List.mem_of_getElem? (i := 353) (by decide +kernel), List.mem_of_getElem? (i := 354) (by decide +kernel)⟩
theorem lw_p6 : lw_okq (⟨"RingPlanes$Mirrors", "layFeet", "(LRingPlanes$Plane;I)V"⟩, 6) := ⟨⟨by decide +kernel, by decide +kernel⟩, List.mem_of_getElem? (i := 96) (by decide +kernel), List.mem_of_getElem? (i := 363) (by decide +kernel), List.mem_of_getElem? (i := 364) (by decide +kernel)⟩
theorem lw_p7 : lw_okq (⟨"RingPlanes$Mirrors", "lowestFree", "(I)I"⟩, 6) := ⟨⟨by decide +kernel, by decide +kernel⟩, List.mem_of_getElem? (i := 96) (by decide +kernel), List.mem_of_getElem? (i := 367) (by decide +kernel), List.mem_of_getElem? (i := 368) (by decide +kernel)⟩
theorem lw_p8 : lw_okq (⟨"RingPlanes$Mirrors", "rayOf", "(I)I"⟩, 6) := ⟨⟨by decide +kernel, by decide +kernel⟩, List.mem_of_getElem? (i := 96) (by decide +kernel), List.mem_of_getElem? (i := 371) (by decide +kernel), List.mem_of_getElem? (i := 372) (by decide +kernel)⟩
theorem lw_p9 : lw_okq (⟨"RingPlanes$Mirrors", "isMirror", "(LRingPlanes$Plane;I)Z"⟩, 6) := ⟨⟨by decide +kernel, by decide +kernel⟩, List.mem_of_getElem? (i := 96) (by decide +kernel), List.mem_of_getElem? (i := 377) (by decide +kernel), List.mem_of_getElem? (i := 378) (by decide +kernel)⟩
theorem lw_p10 : lw_okq (⟨"RingPlanes$Mirrors", "lead", "(LRingPlanes$Plane;ZI)V"⟩, 6) := ⟨⟨by decide +kernel, by decide +kernel⟩, List.mem_of_getElem? (i := 96) (by decide +kernel), List.mem_of_getElem? (i := 381) (by decide +kernel), List.mem_of_getElem? (i := 382) (by decide +kernel)⟩
theorem lw_p11 : lw_okq (⟨"RingPlanes$Mirrors", "imageOf", "(I)I"⟩, 6) := ⟨⟨by decide +kernel, by decide +kernel⟩, List.mem_of_getElem? (i := 96) (by decide +kernel), List.mem_of_getElem? (i := 385) (by decide +kernel), List.mem_of_getElem? (i := 386) (by decide +kernel)⟩
theorem lw_p12 : lw_okq (⟨"RingPlanes$Mirrors", "leadsToLine", "(LRingPlanes$Plane;I)Z"⟩, 6) := ⟨⟨by decide +kernel, by decide +kernel⟩, List.mem_of_getElem? (i := 96) (by decide +kernel), List.mem_of_getElem? (i := 389) (by decide +kernel), List.mem_of_getElem? (i := 390) (by decide +kernel)⟩
theorem lw_p13 : lw_okq (⟨"RingPlanes$Text", "digit", "(I)I"⟩, 2) := ⟨⟨by decide +kernel, by decide +kernel⟩, List.mem_of_getElem? (i := 81) (by decide +kernel), List.mem_of_getElem? (i := 448) (by decide +kernel), List.mem_of_getElem? (i := 449) (by decide +kernel)⟩
theorem lw_p14 : lw_okq (⟨"RingPlanes$Text", "sign", "(I)I"⟩, 2) := ⟨⟨by decide +kernel, by decide +kernel⟩, List.mem_of_getElem? (i := 81) (by decide +kernel), List.mem_of_getElem? (i := 452) (by decide +kernel), List.mem_of_getElem? (i := 453) (by decide +kernel)⟩
theorem lw_p15 : lw_okq (⟨"RingPlanesModel", "lays", "()V"⟩, 13) := ⟨⟨by decide +kernel, by decide +kernel⟩, List.mem_of_getElem? (i := 467) (by decide +kernel), List.mem_of_getElem? (i := 473) (by decide +kernel), List.mem_of_getElem? (i := 474) (by decide +kernel)⟩
def lw_privs_1 : List (MethodName × Nat) := [(⟨"RingPlanes$History", "dropOldest", "()V"⟩, 3), (⟨"RingPlanes$Ring", "isSquare", "(I)Z"⟩, 2), (⟨"RingPlanes$Plane", "pointBeside", "(III)I"⟩, 1), (⟨"RingPlanes$Plane", "onOneLine", "(III)Z"⟩, 1), (⟨"RingPlanes$Plane", "crossing", "(IIII)I"⟩, 1), (⟨"RingPlanes$Mirrors", "layRays", "(LRingPlanes$Plane;II)V"⟩, 6), (⟨"RingPlanes$Mirrors", "layFeet", "(LRingPlanes$Plane;I)V"⟩, 6), (⟨"RingPlanes$Mirrors", "lowestFree", "(I)I"⟩, 6), (⟨"RingPlanes$Mirrors", "rayOf", "(I)I"⟩, 6), (⟨"RingPlanes$Mirrors", "isMirror", "(LRingPlanes$Plane;I)Z"⟩, 6), (⟨"RingPlanes$Mirrors", "lead", "(LRingPlanes$Plane;ZI)V"⟩, 6), (⟨"RingPlanes$Mirrors", "imageOf", "(I)I"⟩, 6), (⟨"RingPlanes$Mirrors", "leadsToLine", "(LRingPlanes$Plane;I)Z"⟩, 6), (⟨"RingPlanes$Text", "digit", "(I)I"⟩, 2), (⟨"RingPlanes$Text", "sign", "(I)I"⟩, 2), (⟨"RingPlanesModel", "lays", "()V"⟩, 13)]
theorem lw_r1 : ∀ q ∈ lw_privs_1, lw_okq q := List.forall_mem_cons.mpr ⟨lw_p0, List.forall_mem_cons.mpr ⟨lw_p1, List.forall_mem_cons.mpr ⟨lw_p2, List.forall_mem_cons.mpr ⟨lw_p3, List.forall_mem_cons.mpr ⟨lw_p4, List.forall_mem_cons.mpr ⟨lw_p5, List.forall_mem_cons.mpr ⟨lw_p6, List.forall_mem_cons.mpr ⟨lw_p7, List.forall_mem_cons.mpr ⟨lw_p8, List.forall_mem_cons.mpr ⟨lw_p9, List.forall_mem_cons.mpr ⟨lw_p10, List.forall_mem_cons.mpr ⟨lw_p11, List.forall_mem_cons.mpr ⟨lw_p12, List.forall_mem_cons.mpr ⟨lw_p13, List.forall_mem_cons.mpr ⟨lw_p14, List.forall_mem_cons.mpr ⟨lw_p15, fun _ h => absurd h List.not_mem_nil⟩⟩⟩⟩⟩⟩⟩⟩⟩⟩⟩⟩⟩⟩⟩⟩
theorem lw_p16 : lw_okq (⟨"RingPlanesModel", "plain", "(II)I"⟩, 13) := ⟨⟨by decide +kernel, by decide +kernel⟩, List.mem_of_getElem? (i := 467) (by decide +kernel), List.mem_of_getElem? (i := 477) (by decide +kernel), List.mem_of_getElem? (i := 478) (by decide +kernel)⟩
theorem lw_p17 : lw_okq (⟨"RingPlanesModel", "sets", "(III)V"⟩, 13) := ⟨⟨by decide +kernel, by decide +kernel⟩, List.mem_of_getElem? (i := 467) (by decide +kernel), List.mem_of_getElem? (i := 481) (by decide +kernel), List.mem_of_getElem? (i := 482) (by decide +kernel)⟩
theorem lw_p18 : lw_okq (⟨"RingPlanesModel", "changes", "()V"⟩, 13) := ⟨⟨by decide +kernel, by decide +kernel⟩, List.mem_of_getElem? (i := 467) (by decide +kernel), List.mem_of_getElem? (i := 531) (by decide +kernel), List.mem_of_getElem? (i := 532) (by decide +kernel)⟩
theorem lw_p19 : lw_okq (⟨"RingPlanesModel", "isSquare", "(I)Z"⟩, 13) := ⟨⟨by decide +kernel, by decide +kernel⟩, List.mem_of_getElem? (i := 467) (by decide +kernel), List.mem_of_getElem? (i := 540) (by decide +kernel), List.mem_of_getElem? (i := 541) (by decide +kernel)⟩
theorem lw_p20 : lw_okq (⟨"RingPlanesModel", "times", "(II)I"⟩, 13) := ⟨⟨by decide +kernel, by decide +kernel⟩, List.mem_of_getElem? (i := 467) (by decide +kernel), List.mem_of_getElem? (i := 544) (by decide +kernel), List.mem_of_getElem? (i := 545) (by decide +kernel)⟩
theorem lw_p21 : lw_okq (⟨"RingPlanesModel", "isElement", "(I)Z"⟩, 13) := ⟨⟨by decide +kernel, by decide +kernel⟩, List.mem_of_getElem? (i := 467) (by decide +kernel), List.mem_of_getElem? (i := 552) (by decide +kernel), List.mem_of_getElem? (i := 553) (by decide +kernel)⟩
theorem lw_p22 : lw_okq (⟨"RingPlanesModel", "sum", "(II)I"⟩, 13) := ⟨⟨by decide +kernel, by decide +kernel⟩, List.mem_of_getElem? (i := 467) (by decide +kernel), List.mem_of_getElem? (i := 567) (by decide +kernel), List.mem_of_getElem? (i := 568) (by decide +kernel)⟩
theorem lw_p23 : lw_okq (⟨"RingPlanesModel", "less", "(II)I"⟩, 13) := ⟨⟨by decide +kernel, by decide +kernel⟩, List.mem_of_getElem? (i := 467) (by decide +kernel), List.mem_of_getElem? (i := 571) (by decide +kernel), List.mem_of_getElem? (i := 572) (by decide +kernel)⟩
theorem lw_p24 : lw_okq (⟨"RingPlanesModel", "holds", "(I)Z"⟩, 13) := ⟨⟨by decide +kernel, by decide +kernel⟩, List.mem_of_getElem? (i := 467) (by decide +kernel), List.mem_of_getElem? (i := 580) (by decide +kernel), List.mem_of_getElem? (i := 581) (by decide +kernel)⟩
theorem lw_p25 : lw_okq (⟨"RingPlanesModel", "holdsFor", "(IIII)Z"⟩, 13) := ⟨⟨by decide +kernel, by decide +kernel⟩, List.mem_of_getElem? (i := 467) (by decide +kernel), List.mem_of_getElem? (i := 584) (by decide +kernel), List.mem_of_getElem? (i := 585) (by decide +kernel)⟩
theorem lw_p26 : lw_okq (⟨"RingPlanesModel", "areUnlike", "(III)Z"⟩, 13) := ⟨⟨by decide +kernel, by decide +kernel⟩, List.mem_of_getElem? (i := 467) (by decide +kernel), List.mem_of_getElem? (i := 588) (by decide +kernel), List.mem_of_getElem? (i := 589) (by decide +kernel)⟩
theorem lw_p27 : lw_okq (⟨"RingPlanesModel", "isSuch", "(II)Z"⟩, 13) := ⟨⟨by decide +kernel, by decide +kernel⟩, List.mem_of_getElem? (i := 467) (by decide +kernel), List.mem_of_getElem? (i := 596) (by decide +kernel), List.mem_of_getElem? (i := 597) (by decide +kernel)⟩
theorem lw_p28 : lw_okq (⟨"RingPlanesModel", "isPoint", "(I)Z"⟩, 13) := ⟨⟨by decide +kernel, by decide +kernel⟩, List.mem_of_getElem? (i := 467) (by decide +kernel), List.mem_of_getElem? (i := 604) (by decide +kernel), List.mem_of_getElem? (i := 605) (by decide +kernel)⟩
theorem lw_p29 : lw_okq (⟨"RingPlanesModel", "points", "()I"⟩, 13) := ⟨⟨by decide +kernel, by decide +kernel⟩, List.mem_of_getElem? (i := 467) (by decide +kernel), List.mem_of_getElem? (i := 608) (by decide +kernel), List.mem_of_getElem? (i := 609) (by decide +kernel)⟩
theorem lw_p30 : lw_okq (⟨"RingPlanesModel", "isOn", "(II)Z"⟩, 13) := ⟨⟨by decide +kernel, by decide +kernel⟩, List.mem_of_getElem? (i := 467) (by decide +kernel), List.mem_of_getElem? (i := 612) (by decide +kernel), List.mem_of_getElem? (i := 613) (by decide +kernel)⟩
theorem lw_p31 : lw_okq (⟨"RingPlanesModel", "draws", "()V"⟩, 13) := ⟨⟨by decide +kernel, by decide +kernel⟩, List.mem_of_getElem? (i := 467) (by decide +kernel), List.mem_of_getElem? (i := 620) (by decide +kernel), List.mem_of_getElem? (i := 621) (by decide +kernel)⟩
def lw_privs_2 : List (MethodName × Nat) := [(⟨"RingPlanesModel", "plain", "(II)I"⟩, 13), (⟨"RingPlanesModel", "sets", "(III)V"⟩, 13), (⟨"RingPlanesModel", "changes", "()V"⟩, 13), (⟨"RingPlanesModel", "isSquare", "(I)Z"⟩, 13), (⟨"RingPlanesModel", "times", "(II)I"⟩, 13), (⟨"RingPlanesModel", "isElement", "(I)Z"⟩, 13), (⟨"RingPlanesModel", "sum", "(II)I"⟩, 13), (⟨"RingPlanesModel", "less", "(II)I"⟩, 13), (⟨"RingPlanesModel", "holds", "(I)Z"⟩, 13), (⟨"RingPlanesModel", "holdsFor", "(IIII)Z"⟩, 13), (⟨"RingPlanesModel", "areUnlike", "(III)Z"⟩, 13), (⟨"RingPlanesModel", "isSuch", "(II)Z"⟩, 13), (⟨"RingPlanesModel", "isPoint", "(I)Z"⟩, 13), (⟨"RingPlanesModel", "points", "()I"⟩, 13), (⟨"RingPlanesModel", "isOn", "(II)Z"⟩, 13), (⟨"RingPlanesModel", "draws", "()V"⟩, 13)]
theorem lw_r2 : ∀ q ∈ lw_privs_2, lw_okq q := List.forall_mem_cons.mpr ⟨lw_p16, List.forall_mem_cons.mpr ⟨lw_p17, List.forall_mem_cons.mpr ⟨lw_p18, List.forall_mem_cons.mpr ⟨lw_p19, List.forall_mem_cons.mpr ⟨lw_p20, List.forall_mem_cons.mpr ⟨lw_p21, List.forall_mem_cons.mpr ⟨lw_p22, List.forall_mem_cons.mpr ⟨lw_p23, List.forall_mem_cons.mpr ⟨lw_p24, List.forall_mem_cons.mpr ⟨lw_p25, List.forall_mem_cons.mpr ⟨lw_p26, List.forall_mem_cons.mpr ⟨lw_p27, List.forall_mem_cons.mpr ⟨lw_p28, List.forall_mem_cons.mpr ⟨lw_p29, List.forall_mem_cons.mpr ⟨lw_p30, List.forall_mem_cons.mpr ⟨lw_p31, fun _ h => absurd h List.not_mem_nil⟩⟩⟩⟩⟩⟩⟩⟩⟩⟩⟩⟩⟩⟩⟩⟩
theorem lw_p32 : lw_okq (⟨"RingPlanesModel", "marks", "(II)V"⟩, 13) := ⟨⟨by decide +kernel, by decide +kernel⟩, List.mem_of_getElem? (i := 467) (by decide +kernel), List.mem_of_getElem? (i := 624) (by decide +kernel), List.mem_of_getElem? (i := 625) (by decide +kernel)⟩
theorem lw_p33 : lw_okq (⟨"RingPlanesModel", "atIndex", "(II)I"⟩, 13) := ⟨⟨by decide +kernel, by decide +kernel⟩, List.mem_of_getElem? (i := 467) (by decide +kernel), List.mem_of_getElem? (i := 628) (by decide +kernel), List.mem_of_getElem? (i := 629) (by decide +kernel)⟩
theorem lw_p34 : lw_okq (⟨"RingPlanesModel", "lineOf", "(II)I"⟩, 13) := ⟨⟨by decide +kernel, by decide +kernel⟩, List.mem_of_getElem? (i := 467) (by decide +kernel), List.mem_of_getElem? (i := 636) (by decide +kernel), List.mem_of_getElem? (i := 637) (by decide +kernel)⟩
theorem lw_p35 : lw_okq (⟨"RingPlanesModel", "both", "(II)I"⟩, 13) := ⟨⟨by decide +kernel, by decide +kernel⟩, List.mem_of_getElem? (i := 467) (by decide +kernel), List.mem_of_getElem? (i := 640) (by decide +kernel), List.mem_of_getElem? (i := 641) (by decide +kernel)⟩
theorem lw_p36 : lw_okq (⟨"RingPlanesModel", "meetOf", "(II)I"⟩, 13) := ⟨⟨by decide +kernel, by decide +kernel⟩, List.mem_of_getElem? (i := 467) (by decide +kernel), List.mem_of_getElem? (i := 647) (by decide +kernel), List.mem_of_getElem? (i := 648) (by decide +kernel)⟩
theorem lw_p37 : lw_okq (⟨"RingPlanesModel", "wrong", "(I)I"⟩, 13) := ⟨⟨by decide +kernel, by decide +kernel⟩, List.mem_of_getElem? (i := 467) (by decide +kernel), List.mem_of_getElem? (i := 655) (by decide +kernel), List.mem_of_getElem? (i := 656) (by decide +kernel)⟩
theorem lw_p38 : lw_okq (⟨"RingPlanesModel", "isPlane", "()Z"⟩, 13) := ⟨⟨by decide +kernel, by decide +kernel⟩, List.mem_of_getElem? (i := 467) (by decide +kernel), List.mem_of_getElem? (i := 666) (by decide +kernel), List.mem_of_getElem? (i := 667) (by decide +kernel)⟩
theorem lw_p39 : lw_okq (⟨"RingPlanesModel", "looks", "(IIIIII)I"⟩, 13) := ⟨⟨by decide +kernel, by decide +kernel⟩, List.mem_of_getElem? (i := 467) (by decide +kernel), List.mem_of_getElem? (i := 670) (by decide +kernel), List.mem_of_getElem? (i := 671) (by decide +kernel)⟩
theorem lw_p40 : lw_okq (⟨"RingPlanesModel", "other", "(III)I"⟩, 13) := ⟨⟨by decide +kernel, by decide +kernel⟩, List.mem_of_getElem? (i := 467) (by decide +kernel), List.mem_of_getElem? (i := 674) (by decide +kernel), List.mem_of_getElem? (i := 675) (by decide +kernel)⟩
theorem lw_p41 : lw_okq (⟨"RingPlanesModel", "areOnOne", "(III)Z"⟩, 13) := ⟨⟨by decide +kernel, by decide +kernel⟩, List.mem_of_getElem? (i := 467) (by decide +kernel), List.mem_of_getElem? (i := 678) (by decide +kernel), List.mem_of_getElem? (i := 679) (by decide +kernel)⟩
theorem lw_p42 : lw_okq (⟨"RingPlanesModel", "cross", "(IIII)I"⟩, 13) := ⟨⟨by decide +kernel, by decide +kernel⟩, List.mem_of_getElem? (i := 467) (by decide +kernel), List.mem_of_getElem? (i := 682) (by decide +kernel), List.mem_of_getElem? (i := 683) (by decide +kernel)⟩
theorem lw_p43 : lw_okq (⟨"RingPlanesModel", "maps", "(IIII)V"⟩, 13) := ⟨⟨by decide +kernel, by decide +kernel⟩, List.mem_of_getElem? (i := 467) (by decide +kernel), List.mem_of_getElem? (i := 698) (by decide +kernel), List.mem_of_getElem? (i := 699) (by decide +kernel)⟩
theorem lw_p44 : lw_okq (⟨"RingPlanesModel", "leads", "(IIIII)I"⟩, 13) := ⟨⟨by decide +kernel, by decide +kernel⟩, List.mem_of_getElem? (i := 467) (by decide +kernel), List.mem_of_getElem? (i := 702) (by decide +kernel), List.mem_of_getElem? (i := 703) (by decide +kernel)⟩
theorem lw_p45 : lw_okq (⟨"RingPlanesModel", "isMirror", "(II)Z"⟩, 13) := ⟨⟨by decide +kernel, by decide +kernel⟩, List.mem_of_getElem? (i := 467) (by decide +kernel), List.mem_of_getElem? (i := 706) (by decide +kernel), List.mem_of_getElem? (i := 707) (by decide +kernel)⟩
theorem lw_p46 : lw_okq (⟨"RingPlanesModel", "held", "()I"⟩, 13) := ⟨⟨by decide +kernel, by decide +kernel⟩, List.mem_of_getElem? (i := 467) (by decide +kernel), List.mem_of_getElem? (i := 714) (by decide +kernel), List.mem_of_getElem? (i := 715) (by decide +kernel)⟩
theorem lw_p47 : lw_okq (⟨"RingPlanesModel", "products", "(Z)I"⟩, 13) := ⟨⟨by decide +kernel, by decide +kernel⟩, List.mem_of_getElem? (i := 467) (by decide +kernel), List.mem_of_getElem? (i := 733) (by decide +kernel), List.mem_of_getElem? (i := 734) (by decide +kernel)⟩
def lw_privs_3 : List (MethodName × Nat) := [(⟨"RingPlanesModel", "marks", "(II)V"⟩, 13), (⟨"RingPlanesModel", "atIndex", "(II)I"⟩, 13), (⟨"RingPlanesModel", "lineOf", "(II)I"⟩, 13), (⟨"RingPlanesModel", "both", "(II)I"⟩, 13), (⟨"RingPlanesModel", "meetOf", "(II)I"⟩, 13), (⟨"RingPlanesModel", "wrong", "(I)I"⟩, 13), (⟨"RingPlanesModel", "isPlane", "()Z"⟩, 13), (⟨"RingPlanesModel", "looks", "(IIIIII)I"⟩, 13), (⟨"RingPlanesModel", "other", "(III)I"⟩, 13), (⟨"RingPlanesModel", "areOnOne", "(III)Z"⟩, 13), (⟨"RingPlanesModel", "cross", "(IIII)I"⟩, 13), (⟨"RingPlanesModel", "maps", "(IIII)V"⟩, 13), (⟨"RingPlanesModel", "leads", "(IIIII)I"⟩, 13), (⟨"RingPlanesModel", "isMirror", "(II)Z"⟩, 13), (⟨"RingPlanesModel", "held", "()I"⟩, 13), (⟨"RingPlanesModel", "products", "(Z)I"⟩, 13)]
theorem lw_r3 : ∀ q ∈ lw_privs_3, lw_okq q := List.forall_mem_cons.mpr ⟨lw_p32, List.forall_mem_cons.mpr ⟨lw_p33, List.forall_mem_cons.mpr ⟨lw_p34, List.forall_mem_cons.mpr ⟨lw_p35, List.forall_mem_cons.mpr ⟨lw_p36, List.forall_mem_cons.mpr ⟨lw_p37, List.forall_mem_cons.mpr ⟨lw_p38, List.forall_mem_cons.mpr ⟨lw_p39, List.forall_mem_cons.mpr ⟨lw_p40, List.forall_mem_cons.mpr ⟨lw_p41, List.forall_mem_cons.mpr ⟨lw_p42, List.forall_mem_cons.mpr ⟨lw_p43, List.forall_mem_cons.mpr ⟨lw_p44, List.forall_mem_cons.mpr ⟨lw_p45, List.forall_mem_cons.mpr ⟨lw_p46, List.forall_mem_cons.mpr ⟨lw_p47, fun _ h => absurd h List.not_mem_nil⟩⟩⟩⟩⟩⟩⟩⟩⟩⟩⟩⟩⟩⟩⟩⟩
theorem lw_p48 : lw_okq (⟨"RingPlanesModel", "isRight", "()Z"⟩, 13) := ⟨⟨by decide +kernel, by decide +kernel⟩, List.mem_of_getElem? (i := 467) (by decide +kernel), List.mem_of_getElem? (i := 754) (by decide +kernel), List.mem_of_getElem? (i := 755) (by decide +kernel)⟩
theorem lw_p49 : lw_okq (⟨"RingPlanesModel", "isAt", "(III)Z"⟩, 13) := ⟨⟨by decide +kernel, by decide +kernel⟩, List.mem_of_getElem? (i := 467) (by decide +kernel), List.mem_of_getElem? (i := 758) (by decide +kernel), List.mem_of_getElem? (i := 759) (by decide +kernel)⟩
def lw_privs_4 : List (MethodName × Nat) := [(⟨"RingPlanesModel", "isRight", "()Z"⟩, 13), (⟨"RingPlanesModel", "isAt", "(III)Z"⟩, 13)]
theorem lw_r4 : ∀ q ∈ lw_privs_4, lw_okq q := List.forall_mem_cons.mpr ⟨lw_p48, List.forall_mem_cons.mpr ⟨lw_p49, fun _ h => absurd h List.not_mem_nil⟩⟩
def lw_privs : List (MethodName × Nat) := lw_privs_1 ++ (lw_privs_2 ++ (lw_privs_3 ++ (lw_privs_4)))
def lw_tbl : List Cond := k2_sels lw_privs ++ tables_1
theorem lw_privs_ok : ∀ q ∈ lw_privs, lw_okq q := by
  show ∀ q ∈ lw_privs_1 ++ (lw_privs_2 ++ (lw_privs_3 ++ (lw_privs_4))), lw_okq q
  exact List.forall_mem_append.mpr ⟨lw_r1, List.forall_mem_append.mpr ⟨lw_r2, List.forall_mem_append.mpr ⟨lw_r3, lw_r4⟩⟩⟩
/-- the streams that the claim lets the run draw from -/
abbrev lw_cs : List Choice := [Jvm.Choice.named "NaN.bits"]
theorem lw_bits : nanBits ∈ lw_cs := by first | decide | exact List.mem_cons_self | simp [lw_cs, nanBits]
/-! the classes: names, fields (as the claim prints them) -/
def RX0 : String := "RingPlanes$History"
def TX0 : u_T := fun k => match k with
  | 0 => ("RingPlanes$History", "sizes", "[I", true)
  | 1 => ("RingPlanes$History", "products", "[I", true)
  | _ => ("RingPlanes$History", "count", "I", false)
def tyX0 : Nat → FieldType := fun k => match k with
  | 0 => .array .int
  | 1 => .array .int
  | _ => .int
theorem nmX0 : ∀ a, a < 3 → ∀ b, b < 3 → a ≠ b → (TX0 a).2.1 ≠ (TX0 b).2.1 := by decide +kernel
theorem tyX0_ok : ∀ k, k < 3 → parseFieldDescriptor (TX0 k).2.2.1 = some (tyX0 k) := by decide +kernel
def RX1 : String := "RingPlanes$Laws"
def TX1 : u_T := fun k => match k with
  | _ => ("", "", "", false)
def tyX1 : Nat → FieldType := fun k => match k with
  | _ => .int
theorem nmX1 : ∀ a, a < 0 → ∀ b, b < 0 → a ≠ b → (TX1 a).2.1 ≠ (TX1 b).2.1 := by decide +kernel
theorem tyX1_ok : ∀ k, k < 0 → parseFieldDescriptor (TX1 k).2.2.1 = some (tyX1 k) := by decide +kernel
def RX2 : String := "RingPlanes$Mirrors"
def TX2 : u_T := fun k => match k with
  | 0 => ("RingPlanes$Mirrors", "rays", "[I", true)
  | 1 => ("RingPlanes$Mirrors", "feet", "[I", true)
  | 2 => ("RingPlanes$Mirrors", "images", "[I", true)
  | 3 => ("RingPlanes$Mirrors", "end", "I", false)
  | 4 => ("RingPlanes$Mirrors", "baseRay", "I", false)
  | _ => ("RingPlanes$Mirrors", "helper", "I", false)
def tyX2 : Nat → FieldType := fun k => match k with
  | 0 => .array .int
  | 1 => .array .int
  | 2 => .array .int
  | 3 => .int
  | 4 => .int
  | _ => .int
theorem nmX2 : ∀ a, a < 6 → ∀ b, b < 6 → a ≠ b → (TX2 a).2.1 ≠ (TX2 b).2.1 := by decide +kernel
theorem tyX2_ok : ∀ k, k < 6 → parseFieldDescriptor (TX2 k).2.2.1 = some (tyX2 k) := by decide +kernel
def RX3 : String := "RingPlanes$Plane"
def TX3 : u_T := fun k => match k with
  | _ => ("RingPlanes$Plane", "ring", "LRingPlanes$Ring;", true)
def tyX3 : Nat → FieldType := fun k => match k with
  | _ => .object "RingPlanes$Ring"
theorem nmX3 : ∀ a, a < 1 → ∀ b, b < 1 → a ≠ b → (TX3 a).2.1 ≠ (TX3 b).2.1 := by decide +kernel
theorem tyX3_ok : ∀ k, k < 1 → parseFieldDescriptor (TX3 k).2.2.1 = some (tyX3 k) := by decide +kernel
def RX4 : String := "RingPlanes$Ring"
def TX4 : u_T := fun k => match k with
  | 0 => ("RingPlanes$Ring", "size", "I", false)
  | _ => ("RingPlanes$Ring", "products", "[I", true)
def tyX4 : Nat → FieldType := fun k => match k with
  | 0 => .int
  | _ => .array .int
theorem nmX4 : ∀ a, a < 2 → ∀ b, b < 2 → a ≠ b → (TX4 a).2.1 ≠ (TX4 b).2.1 := by decide +kernel
theorem tyX4_ok : ∀ k, k < 2 → parseFieldDescriptor (TX4 k).2.2.1 = some (tyX4 k) := by decide +kernel
def RX5 : String := "RingPlanes$Text"
def TX5 : u_T := fun k => match k with
  | 0 => ("RingPlanes$Text", "signs", "[C", true)
  | _ => ("RingPlanes$Text", "length", "I", false)
def tyX5 : Nat → FieldType := fun k => match k with
  | 0 => .array .char
  | _ => .int
theorem nmX5 : ∀ a, a < 2 → ∀ b, b < 2 → a ≠ b → (TX5 a).2.1 ≠ (TX5 b).2.1 := by decide +kernel
theorem tyX5_ok : ∀ k, k < 2 → parseFieldDescriptor (TX5 k).2.2.1 = some (tyX5 k) := by decide +kernel
def RX6 : String := "RingPlanes"
def TX6 : u_T := fun k => match k with
  | 0 => ("RingPlanes", "plane", "LRingPlanes$Plane;", true)
  | 1 => ("RingPlanes", "ring", "LRingPlanes$Ring;", true)
  | 2 => ("RingPlanes", "history", "LRingPlanes$History;", true)
  | 3 => ("RingPlanes", "text", "LRingPlanes$Text;", true)
  | _ => ("RingPlanes", "mirrors", "LRingPlanes$Mirrors;", true)
def tyX6 : Nat → FieldType := fun k => match k with
  | 0 => .object "RingPlanes$Plane"
  | 1 => .object "RingPlanes$Ring"
  | 2 => .object "RingPlanes$History"
  | 3 => .object "RingPlanes$Text"
  | _ => .object "RingPlanes$Mirrors"
theorem nmX6 : ∀ a, a < 5 → ∀ b, b < 5 → a ≠ b → (TX6 a).2.1 ≠ (TX6 b).2.1 := by decide +kernel
theorem tyX6_ok : ∀ k, k < 5 → parseFieldDescriptor (TX6 k).2.2.1 = some (tyX6 k) := by decide +kernel
def RX7 : String := "RingPlanesModel"
def TX7 : u_T := fun k => match k with
  | 0 => ("RingPlanesModel", "s", "[I", true)
  | 1 => ("RingPlanesModel", "past", "[I", true)
  | 2 => ("RingPlanesModel", "pasts", "I", false)
  | 3 => ("RingPlanesModel", "text", "[I", true)
  | 4 => ("RingPlanesModel", "typed", "I", false)
  | 5 => ("RingPlanesModel", "firstA", "I", false)
  | 6 => ("RingPlanesModel", "firstB", "I", false)
  | 7 => ("RingPlanesModel", "firstC", "I", false)
  | 8 => ("RingPlanesModel", "low", "[J", true)
  | 9 => ("RingPlanesModel", "high", "[J", true)
  | 10 => ("RingPlanesModel", "image", "[I", true)
  | 11 => ("RingPlanesModel", "place", "I", false)
  | _ => ("RingPlanesModel", "reason", "I", false)
def tyX7 : Nat → FieldType := fun k => match k with
  | 0 => .array .int
  | 1 => .array .int
  | 2 => .int
  | 3 => .array .int
  | 4 => .int
  | 5 => .int
  | 6 => .int
  | 7 => .int
  | 8 => .array .long
  | 9 => .array .long
  | 10 => .array .int
  | 11 => .int
  | _ => .int
theorem nmX7 : ∀ a, a < 13 → ∀ b, b < 13 → a ≠ b → (TX7 a).2.1 ≠ (TX7 b).2.1 := by decide +kernel
theorem tyX7_ok : ∀ k, k < 13 → parseFieldDescriptor (TX7 k).2.2.1 = some (tyX7 k) := by decide +kernel
def RJxf58ca : String := "java/lang/Float"
def RJ6 : String := "java/lang/Integer"
def RJ10 : String := "java/lang/System"
def RL : String := "RingPlanesLaw"
abbrev vwCl : List vw_C := [(RX0, TX0, 3), (RX2, TX2, 6), (RX3, TX3, 1), (RX4, TX4, 2), (RX5, TX5, 2), (RX6, TX6, 5), (RX7, TX7, 13)]
def m_cn : List String := [RX0, RX1, RX2, RX3, RX4, RX5, RX6, RX7, RJxf58ca, RJ6, RJ10, RL]
abbrev MT : Type := MethodName × ByteArray × Nat × Option FieldType × Room × Nat × Nat × Nat
abbrev BE : Type := Nat × Instr × Nat × Nat × Int
def t_0 : MT := (⟨RL, "law", "([I)Z"⟩, code, 4, ret, room_1, 0, 1, 11)
def t_1 : MT := (⟨RX0, "<init>", "()V"⟩, prog_2_method_1_code, 1, none, { frames := 1, cells := 2, slots := 328, locals := 12 }, 2, 0, 0)
def t_2 : MT := (⟨RX0, "keep", "(LRingPlanes$Ring;)V"⟩, prog_2_method_2_code, 2, none, { frames := 2, cells := 0, slots := 0, locals := 47 }, 1, 1, 0)
def t_3 : MT := (⟨RX0, "restore", "(LRingPlanes$Ring;)V"⟩, prog_2_method_3_code, 2, none, { frames := 1, cells := 0, slots := 0, locals := 26 }, 1, 1, 0)
def t_4 : MT := (⟨RX0, "dropOldest", "()V"⟩, prog_2_method_4_code, 2, none, { frames := 1, cells := 0, slots := 0, locals := 26 }, 1, 0, 0)
def t_5 : MT := (⟨RX1, "witness", "(LRingPlanes$Ring;I)I"⟩, prog_3_method_2_code, 7, (some .int), { frames := 4, cells := 0, slots := 0, locals := 97 }, 0, 2, 1)
def t_6 : MT := (⟨RX1, "witnessElement", "(II)I"⟩, prog_3_method_3_code, 2, (some .int), { frames := 0, cells := 0, slots := 0, locals := 0 }, 0, 2, 1)
def t_7 : MT := (⟨RX1, "holdsAt", "(LRingPlanes$Ring;IIII)Z"⟩, prog_3_method_4_code, 5, (some .boolean), { frames := 3, cells := 0, slots := 0, locals := 73 }, 0, 5, 1)
def t_8 : MT := (⟨RX1, "isIn", "(LRingPlanes$Ring;II)Z"⟩, prog_3_method_5_code, 6, (some .boolean), { frames := 5, cells := 0, slots := 0, locals := 121 }, 0, 3, 1)
def t_9 : MT := (⟨RX1, "fits", "(LRingPlanes$Ring;IIII)Z"⟩, prog_3_method_6_code, 5, (some .boolean), { frames := 4, cells := 0, slots := 0, locals := 97 }, 0, 5, 1)
def t_10 : MT := (⟨RX1, "pairsApart", "(LRingPlanes$Ring;Z)I"⟩, prog_3_method_7_code, 5, (some .int), { frames := 3, cells := 0, slots := 0, locals := 73 }, 0, 2, 1)
def t_11 : MT := (⟨RX1, "differencesOnce", "(LRingPlanes$Ring;IIZ)I"⟩, prog_3_method_8_code, 8, (some .int), { frames := 2, cells := 0, slots := 0, locals := 46 }, 0, 4, 1)
def t_12 : MT := (⟨RX2, "<init>", "()V"⟩, prog_4_method_1_code, 1, none, { frames := 1, cells := 3, slots := 273, locals := 12 }, 2, 0, 2)
def t_13 : MT := (⟨RX2, "tally", "(LRingPlanes$Plane;II)I"⟩, prog_4_method_2_code, 7, (some .int), { frames := 5, cells := 0, slots := 0, locals := 121 }, 1, 3, 2)
def t_14 : MT := (⟨RX2, "layRays", "(LRingPlanes$Plane;II)V"⟩, prog_4_method_3_code, 6, none, { frames := 3, cells := 0, slots := 0, locals := 72 }, 1, 3, 2)
def t_15 : MT := (⟨RX2, "layFeet", "(LRingPlanes$Plane;I)V"⟩, prog_4_method_4_code, 6, none, { frames := 3, cells := 0, slots := 0, locals := 72 }, 1, 2, 2)
def t_16 : MT := (⟨RX2, "lowestFree", "(I)I"⟩, prog_4_method_5_code, 3, (some .int), { frames := 1, cells := 0, slots := 0, locals := 21 }, 1, 1, 2)
def t_17 : MT := (⟨RX2, "rayOf", "(I)I"⟩, prog_4_method_6_code, 2, (some .int), { frames := 0, cells := 0, slots := 0, locals := 0 }, 1, 1, 2)
def t_18 : MT := (⟨RX2, "imageOf", "(I)I"⟩, prog_4_method_7_code, 2, (some .int), { frames := 0, cells := 0, slots := 0, locals := 0 }, 1, 1, 2)
def t_19 : MT := (⟨RX2, "isMirror", "(LRingPlanes$Plane;I)Z"⟩, prog_4_method_8_code, 4, (some .boolean), { frames := 4, cells := 0, slots := 0, locals := 98 }, 1, 2, 2)
def t_20 : MT := (⟨RX2, "lead", "(LRingPlanes$Plane;ZI)V"⟩, prog_4_method_9_code, 5, none, { frames := 3, cells := 0, slots := 0, locals := 72 }, 1, 3, 2)
def t_21 : MT := (⟨RX2, "leadsToLine", "(LRingPlanes$Plane;I)Z"⟩, prog_4_method_10_code, 7, (some .boolean), { frames := 3, cells := 0, slots := 0, locals := 72 }, 1, 2, 2)
def t_22 : MT := (⟨RX3, "<init>", "()V"⟩, prog_5_method_1_code, 1, none, { frames := 3, cells := 2, slots := 83, locals := 69 }, 2, 0, 3)
def t_23 : MT := (⟨RX3, "points", "()I"⟩, prog_5_method_2_code, 1, (some .int), { frames := 0, cells := 0, slots := 0, locals := 0 }, 1, 0, 3)
def t_24 : MT := (⟨RX3, "has", "(I)Z"⟩, prog_5_method_3_code, 2, (some .boolean), { frames := 0, cells := 0, slots := 0, locals := 0 }, 1, 1, 3)
def t_25 : MT := (⟨RX3, "isPlane", "()Z"⟩, prog_5_method_4_code, 1, (some .boolean), { frames := 4, cells := 0, slots := 0, locals := 97 }, 1, 0, 3)
def t_26 : MT := (⟨RX3, "isOn", "(II)Z"⟩, prog_5_method_5_code, 6, (some .boolean), { frames := 1, cells := 0, slots := 0, locals := 23 }, 1, 2, 3)
def t_27 : MT := (⟨RX3, "pointOf", "(II)I"⟩, prog_5_method_6_code, 6, (some .int), { frames := 1, cells := 0, slots := 0, locals := 23 }, 1, 2, 3)
def t_28 : MT := (⟨RX3, "lineThrough", "(II)I"⟩, prog_5_method_7_code, 6, (some .int), { frames := 1, cells := 0, slots := 0, locals := 23 }, 1, 2, 3)
def t_29 : MT := (⟨RX3, "lineOf", "(II)I"⟩, prog_5_method_8_code, 5, (some .int), { frames := 2, cells := 0, slots := 0, locals := 48 }, 1, 2, 3)
def t_30 : MT := (⟨RX3, "meetOf", "(II)I"⟩, prog_5_method_9_code, 5, (some .int), { frames := 2, cells := 0, slots := 0, locals := 48 }, 1, 2, 3)
def t_31 : MT := (⟨RX3, "pointBeside", "(III)I"⟩, prog_5_method_10_code, 5, (some .int), { frames := 2, cells := 0, slots := 0, locals := 48 }, 1, 3, 3)
def t_32 : MT := (⟨RX3, "crossing", "(IIII)I"⟩, prog_5_method_11_code, 5, (some .int), { frames := 3, cells := 0, slots := 0, locals := 72 }, 1, 4, 3)
def t_33 : MT := (⟨RX3, "onOneLine", "(III)Z"⟩, prog_5_method_12_code, 6, (some .boolean), { frames := 2, cells := 0, slots := 0, locals := 48 }, 1, 3, 3)
def t_34 : MT := (⟨RX3, "trianglesClose", "(IIIIII)I"⟩, prog_5_method_13_code, 16, (some .int), { frames := 4, cells := 0, slots := 0, locals := 96 }, 1, 6, 3)
def t_35 : MT := (⟨RX3, "hexagonCloses", "(II)Z"⟩, prog_5_method_14_code, 10, (some .boolean), { frames := 4, cells := 0, slots := 0, locals := 96 }, 1, 2, 3)
def t_36 : MT := (⟨RX4, "<init>", "()V"⟩, prog_6_method_1_code, 1, none, { frames := 2, cells := 1, slots := 81, locals := 49 }, 2, 0, 4)
def t_37 : MT := (⟨RX4, "has", "(I)Z"⟩, prog_6_method_2_code, 2, (some .boolean), { frames := 0, cells := 0, slots := 0, locals := 0 }, 1, 1, 4)
def t_38 : MT := (⟨RX4, "sum", "(II)I"⟩, prog_6_method_3_code, 3, (some .int), { frames := 0, cells := 0, slots := 0, locals := 0 }, 1, 2, 4)
def t_39 : MT := (⟨RX4, "difference", "(II)I"⟩, prog_6_method_4_code, 3, (some .int), { frames := 0, cells := 0, slots := 0, locals := 0 }, 1, 2, 4)
def t_40 : MT := (⟨RX4, "times", "(II)I"⟩, prog_6_method_5_code, 4, (some .int), { frames := 0, cells := 0, slots := 0, locals := 0 }, 1, 2, 4)
def t_41 : MT := (⟨RX4, "timesOnSide", "(IIZ)I"⟩, prog_6_method_6_code, 4, (some .int), { frames := 1, cells := 0, slots := 0, locals := 23 }, 1, 3, 4)
def t_42 : MT := (⟨RX4, "lowestFactor", "(IIZ)I"⟩, prog_6_method_7_code, 5, (some .int), { frames := 2, cells := 0, slots := 0, locals := 46 }, 1, 3, 4)
def t_43 : MT := (⟨RX4, "setProduct", "(III)I"⟩, prog_6_method_8_code, 5, (some .int), { frames := 0, cells := 0, slots := 0, locals := 0 }, 1, 3, 4)
def t_44 : MT := (⟨RX4, "becomeField", "(I)V"⟩, prog_6_method_9_code, 4, none, { frames := 1, cells := 0, slots := 0, locals := 26 }, 1, 1, 4)
def t_45 : MT := (⟨RX4, "becomeTwisted", "()I"⟩, prog_6_method_10_code, 6, (some .int), { frames := 2, cells := 0, slots := 0, locals := 48 }, 1, 0, 4)
def t_46 : MT := (⟨RX4, "changeSides", "()I"⟩, prog_6_method_11_code, 5, (some .int), { frames := 1, cells := 0, slots := 0, locals := 24 }, 1, 0, 4)
def t_47 : MT := (⟨RX4, "productsUnlikeField", "()I"⟩, prog_6_method_12_code, 4, (some .int), { frames := 1, cells := 0, slots := 0, locals := 26 }, 1, 0, 4)
def t_48 : MT := (⟨RX4, "zeroProducts", "()I"⟩, prog_6_method_13_code, 4, (some .int), { frames := 1, cells := 0, slots := 0, locals := 23 }, 1, 0, 4)
def t_49 : MT := (⟨RX4, "isSquare", "(I)Z"⟩, prog_6_method_14_code, 3, (some .boolean), { frames := 1, cells := 0, slots := 0, locals := 26 }, 1, 1, 4)
def t_50 : MT := (⟨RX4, "fieldProduct", "(III)I"⟩, prog_6_method_15_code, 7, (some .int), { frames := 0, cells := 0, slots := 0, locals := 0 }, 0, 3, 4)
def t_51 : MT := (⟨RX5, "<init>", "()V"⟩, prog_7_method_1_code, 1, none, { frames := 1, cells := 1, slots := 60, locals := 12 }, 2, 0, 5)
def t_52 : MT := (⟨RX5, "append", "(C)Z"⟩, prog_7_method_2_code, 2, (some .boolean), { frames := 0, cells := 0, slots := 0, locals := 0 }, 1, 1, 5)
def t_53 : MT := (⟨RX5, "faultPlace", "(LRingPlanes$Ring;)I"⟩, prog_7_method_3_code, 3, (some .int), { frames := 3, cells := 0, slots := 0, locals := 69 }, 1, 1, 5)
def t_54 : MT := (⟨RX5, "reason", "(ILRingPlanes$Ring;)I"⟩, prog_7_method_4_code, 7, (some .int), { frames := 2, cells := 0, slots := 0, locals := 43 }, 1, 2, 5)
def t_55 : MT := (⟨RX5, "setProducts", "(LRingPlanes$Ring;)I"⟩, prog_7_method_5_code, 4, (some .int), { frames := 2, cells := 0, slots := 0, locals := 43 }, 1, 1, 5)
def t_56 : MT := (⟨RX5, "digit", "(I)I"⟩, prog_7_method_6_code, 3, (some .int), { frames := 1, cells := 0, slots := 0, locals := 21 }, 1, 1, 5)
def t_57 : MT := (⟨RX5, "sign", "(I)I"⟩, prog_7_method_7_code, 2, (some .int), { frames := 0, cells := 0, slots := 0, locals := 0 }, 1, 1, 5)
def t_58 : MT := (⟨RX6, "<init>", "()V"⟩, prog_1_method_1_code, 1, none, { frames := 4, cells := 12, slots := 756, locals := 89 }, 2, 0, 6)
def t_59 : MT := (⟨RX6, "field", "(I)I"⟩, prog_1_method_2_code, 3, (some .int), { frames := 3, cells := 0, slots := 0, locals := 68 }, 1, 1, 6)
def t_60 : MT := (⟨RX6, "twist", "()I"⟩, prog_1_method_3_code, 1, (some .int), { frames := 3, cells := 0, slots := 0, locals := 73 }, 1, 0, 6)
def t_61 : MT := (⟨RX6, "product", "(III)I"⟩, prog_1_method_4_code, 5, (some .int), { frames := 3, cells := 0, slots := 0, locals := 68 }, 1, 3, 6)
def t_62 : MT := (⟨RX6, "exchange", "()I"⟩, prog_1_method_5_code, 1, (some .int), { frames := 3, cells := 0, slots := 0, locals := 68 }, 1, 0, 6)
def t_63 : MT := (⟨RX6, "by", "(III)I"⟩, prog_1_method_6_code, 4, (some .int), { frames := 3, cells := 0, slots := 0, locals := 70 }, 1, 3, 6)
def t_64 : MT := (⟨RX6, "law", "(II)I"⟩, prog_1_method_7_code, 4, (some .int), { frames := 5, cells := 0, slots := 0, locals := 123 }, 1, 2, 6)
def t_65 : MT := (⟨RX6, "elements", "(I)I"⟩, prog_1_method_8_code, 4, (some .int), { frames := 6, cells := 0, slots := 0, locals := 146 }, 1, 1, 6)
def t_66 : MT := (⟨RX6, "on", "(II)I"⟩, prog_1_method_9_code, 3, (some .int), { frames := 2, cells := 0, slots := 0, locals := 48 }, 1, 2, 6)
def t_67 : MT := (⟨RX6, "at", "(III)I"⟩, prog_1_method_10_code, 4, (some .int), { frames := 2, cells := 0, slots := 0, locals := 48 }, 1, 3, 6)
def t_68 : MT := (⟨RX6, "join", "(III)I"⟩, prog_1_method_11_code, 4, (some .int), { frames := 3, cells := 0, slots := 0, locals := 72 }, 1, 3, 6)
def t_69 : MT := (⟨RX6, "plane", "(I)I"⟩, prog_1_method_12_code, 2, (some .int), { frames := 5, cells := 0, slots := 0, locals := 117 }, 1, 1, 6)
def t_70 : MT := (⟨RX6, "triangles", "(IIIIII)I"⟩, prog_1_method_13_code, 10, (some .int), { frames := 5, cells := 0, slots := 0, locals := 131 }, 1, 6, 6)
def t_71 : MT := (⟨RX6, "open", "(I)I"⟩, prog_1_method_14_code, 5, (some .int), { frames := 5, cells := 0, slots := 0, locals := 131 }, 1, 1, 6)
def t_72 : MT := (⟨RX6, "hexagon", "(II)I"⟩, prog_1_method_15_code, 3, (some .int), { frames := 5, cells := 0, slots := 0, locals := 125 }, 1, 2, 6)
def t_73 : MT := (⟨RX6, "mirrors", "(II)I"⟩, prog_1_method_16_code, 3, (some .int), { frames := 6, cells := 0, slots := 0, locals := 147 }, 1, 2, 6)
def t_74 : MT := (⟨RX6, "share", "()I"⟩, prog_1_method_17_code, 3, (some .int), { frames := 5, cells := 0, slots := 0, locals := 123 }, 1, 0, 6)
def t_75 : MT := (⟨RX6, "count", "(I)I"⟩, prog_1_method_18_code, 2, (some .int), { frames := 2, cells := 0, slots := 0, locals := 49 }, 1, 1, 6)
def t_76 : MT := (⟨RX6, "undo", "()I"⟩, prog_1_method_19_code, 1, (some .int), { frames := 2, cells := 0, slots := 0, locals := 47 }, 1, 0, 6)
def t_77 : MT := (⟨RX6, "type", "(I)I"⟩, prog_1_method_20_code, 2, (some .int), { frames := 1, cells := 0, slots := 0, locals := 21 }, 1, 1, 6)
def t_78 : MT := (⟨RX6, "clearText", "()I"⟩, prog_1_method_21_code, 2, (some .int), { frames := 0, cells := 0, slots := 0, locals := 0 }, 1, 0, 6)
def t_79 : MT := (⟨RX6, "fault", "(I)I"⟩, prog_1_method_22_code, 3, (some .int), { frames := 4, cells := 0, slots := 0, locals := 91 }, 1, 1, 6)
def t_80 : MT := (⟨RX6, "play", "()I"⟩, prog_1_method_23_code, 1, (some .int), { frames := 4, cells := 0, slots := 0, locals := 91 }, 1, 0, 6)
def t_81 : MT := (⟨RX6, "isFieldSize", "(I)Z"⟩, prog_1_method_24_code, 1, (some .boolean), { frames := 0, cells := 0, slots := 0, locals := 0 }, 0, 1, 6)
def t_82 : MT := (⟨RX6, "isIndex", "(II)Z"⟩, prog_1_method_25_code, 2, (some .boolean), { frames := 0, cells := 0, slots := 0, locals := 0 }, 0, 2, 6)
def t_83 : MT := (⟨RX6, "orNotFound", "(I)I"⟩, prog_1_method_26_code, 1, (some .int), { frames := 0, cells := 0, slots := 0, locals := 0 }, 0, 1, 6)
def t_84 : MT := (⟨RX6, "bitsOf", "(F)I"⟩, prog_1_method_27_code, 4, (some .int), { frames := 0, cells := 0, slots := 0, locals := 0 }, 0, 1, 6)
def t_85 : MT := (⟨RX7, "<init>", "()V"⟩, prog_9_method_1_code, 1, none, { frames := 2, cells := 6, slots := 925, locals := 47 }, 2, 0, 7)
def t_86 : MT := (⟨RX7, "in", "(III)Z"⟩, prog_9_method_3_code, 3, (some .boolean), { frames := 0, cells := 0, slots := 0, locals := 0 }, 0, 3, 7)
def t_87 : MT := (⟨RX7, "changes", "()V"⟩, prog_9_method_4_code, 2, none, { frames := 0, cells := 0, slots := 0, locals := 0 }, 1, 0, 7)
def t_88 : MT := (⟨RX7, "isElement", "(I)Z"⟩, prog_9_method_5_code, 2, (some .boolean), { frames := 0, cells := 0, slots := 0, locals := 0 }, 1, 1, 7)
def t_89 : MT := (⟨RX7, "points", "()I"⟩, prog_9_method_6_code, 1, (some .int), { frames := 0, cells := 0, slots := 0, locals := 0 }, 1, 0, 7)
def t_90 : MT := (⟨RX7, "isPoint", "(I)Z"⟩, prog_9_method_7_code, 2, (some .boolean), { frames := 1, cells := 0, slots := 0, locals := 20 }, 1, 1, 7)
def t_91 : MT := (⟨RX7, "sum", "(II)I"⟩, prog_9_method_8_code, 4, (some .int), { frames := 0, cells := 0, slots := 0, locals := 0 }, 1, 2, 7)
def t_92 : MT := (⟨RX7, "less", "(II)I"⟩, prog_9_method_9_code, 4, (some .int), { frames := 1, cells := 0, slots := 0, locals := 23 }, 1, 2, 7)
def t_93 : MT := (⟨RX7, "plain", "(II)I"⟩, prog_9_method_10_code, 6, (some .int), { frames := 0, cells := 0, slots := 0, locals := 0 }, 1, 2, 7)
def t_94 : MT := (⟨RX7, "times", "(II)I"⟩, prog_9_method_11_code, 3, (some .int), { frames := 0, cells := 0, slots := 0, locals := 0 }, 1, 2, 7)
def t_95 : MT := (⟨RX7, "sets", "(III)V"⟩, prog_9_method_12_code, 4, none, { frames := 0, cells := 0, slots := 0, locals := 0 }, 1, 3, 7)
def t_96 : MT := (⟨RX7, "lays", "()V"⟩, prog_9_method_13_code, 3, none, { frames := 1, cells := 0, slots := 0, locals := 25 }, 1, 0, 7)
def t_97 : MT := (⟨RX7, "field", "(I)I"⟩, prog_9_method_14_code, 3, (some .int), { frames := 2, cells := 0, slots := 0, locals := 47 }, 1, 1, 7)
def t_98 : MT := (⟨RX7, "isSquare", "(I)Z"⟩, prog_9_method_15_code, 4, (some .boolean), { frames := 1, cells := 0, slots := 0, locals := 25 }, 1, 1, 7)
def t_99 : MT := (⟨RX7, "twist", "()I"⟩, prog_9_method_16_code, 6, (some .int), { frames := 2, cells := 0, slots := 0, locals := 48 }, 1, 0, 7)
def t_100 : MT := (⟨RX7, "product", "(III)I"⟩, prog_9_method_17_code, 5, (some .int), { frames := 1, cells := 0, slots := 0, locals := 23 }, 1, 3, 7)
def t_101 : MT := (⟨RX7, "exchange", "()I"⟩, prog_9_method_18_code, 6, (some .int), { frames := 1, cells := 0, slots := 0, locals := 23 }, 1, 0, 7)
def t_102 : MT := (⟨RX7, "by", "(III)I"⟩, prog_9_method_19_code, 5, (some .int), { frames := 2, cells := 0, slots := 0, locals := 46 }, 1, 3, 7)
def t_103 : MT := (⟨RX7, "areUnlike", "(III)Z"⟩, prog_9_method_20_code, 7, (some .boolean), { frames := 2, cells := 0, slots := 0, locals := 46 }, 1, 3, 7)
def t_104 : MT := (⟨RX7, "holdsFor", "(IIII)Z"⟩, prog_9_method_21_code, 5, (some .boolean), { frames := 3, cells := 0, slots := 0, locals := 72 }, 1, 4, 7)
def t_105 : MT := (⟨RX7, "holds", "(I)Z"⟩, prog_9_method_22_code, 8, (some .boolean), { frames := 4, cells := 0, slots := 0, locals := 96 }, 1, 1, 7)
def t_106 : MT := (⟨RX7, "law", "(II)I"⟩, prog_9_method_23_code, 4, (some .int), { frames := 5, cells := 0, slots := 0, locals := 123 }, 1, 2, 7)
def t_107 : MT := (⟨RX7, "isSuch", "(II)Z"⟩, prog_9_method_24_code, 6, (some .boolean), { frames := 1, cells := 0, slots := 0, locals := 23 }, 1, 2, 7)
def t_108 : MT := (⟨RX7, "elements", "(I)I"⟩, prog_9_method_25_code, 4, (some .int), { frames := 2, cells := 0, slots := 0, locals := 48 }, 1, 1, 7)
def t_109 : MT := (⟨RX7, "isOn", "(II)Z"⟩, prog_9_method_26_code, 5, (some .boolean), { frames := 1, cells := 0, slots := 0, locals := 23 }, 1, 2, 7)
def t_110 : MT := (⟨RX7, "marks", "(II)V"⟩, prog_9_method_27_code, 3, none, { frames := 0, cells := 0, slots := 0, locals := 0 }, 1, 2, 7)
def t_111 : MT := (⟨RX7, "draws", "()V"⟩, prog_9_method_28_code, 4, none, { frames := 2, cells := 0, slots := 0, locals := 47 }, 1, 0, 7)
def t_112 : MT := (⟨RX7, "lowest", "(JJ)I"⟩, prog_9_method_29_code, 5, (some .int), { frames := 0, cells := 0, slots := 0, locals := 0 }, 0, 2, 7)
def t_113 : MT := (⟨RX7, "isOne", "(JJ)Z"⟩, prog_9_method_30_code, 4, (some .boolean), { frames := 0, cells := 0, slots := 0, locals := 0 }, 0, 2, 7)
def t_114 : MT := (⟨RX7, "both", "(II)I"⟩, prog_9_method_31_code, 3, (some .int), { frames := 1, cells := 0, slots := 0, locals := 24 }, 1, 2, 7)
def t_115 : MT := (⟨RX7, "lineOf", "(II)I"⟩, prog_9_method_32_code, 3, (some .int), { frames := 2, cells := 0, slots := 0, locals := 46 }, 1, 2, 7)
def t_116 : MT := (⟨RX7, "meetOf", "(II)I"⟩, prog_9_method_33_code, 3, (some .int), { frames := 2, cells := 0, slots := 0, locals := 46 }, 1, 2, 7)
def t_117 : MT := (⟨RX7, "wrong", "(I)I"⟩, prog_9_method_34_code, 6, (some .int), { frames := 1, cells := 0, slots := 0, locals := 23 }, 1, 1, 7)
def t_118 : MT := (⟨RX7, "isPlane", "()Z"⟩, prog_9_method_35_code, 1, (some .boolean), { frames := 3, cells := 0, slots := 0, locals := 70 }, 1, 0, 7)
def t_119 : MT := (⟨RX7, "on", "(II)I"⟩, prog_9_method_36_code, 3, (some .int), { frames := 2, cells := 0, slots := 0, locals := 47 }, 1, 2, 7)
def t_120 : MT := (⟨RX7, "atIndex", "(II)I"⟩, prog_9_method_37_code, 7, (some .int), { frames := 0, cells := 0, slots := 0, locals := 0 }, 1, 2, 7)
def t_121 : MT := (⟨RX7, "at", "(III)I"⟩, prog_9_method_38_code, 4, (some .int), { frames := 3, cells := 0, slots := 0, locals := 70 }, 1, 3, 7)
def t_122 : MT := (⟨RX7, "join", "(III)I"⟩, prog_9_method_39_code, 4, (some .int), { frames := 3, cells := 0, slots := 0, locals := 70 }, 1, 3, 7)
def t_123 : MT := (⟨RX7, "plane", "(I)I"⟩, prog_9_method_40_code, 2, (some .int), { frames := 3, cells := 0, slots := 0, locals := 70 }, 1, 1, 7)
def t_124 : MT := (⟨RX7, "areOnOne", "(III)Z"⟩, prog_9_method_41_code, 4, (some .boolean), { frames := 1, cells := 0, slots := 0, locals := 24 }, 1, 3, 7)
def t_125 : MT := (⟨RX7, "cross", "(IIII)I"⟩, prog_9_method_42_code, 5, (some .int), { frames := 3, cells := 0, slots := 0, locals := 68 }, 1, 4, 7)
def t_126 : MT := (⟨RX7, "other", "(III)I"⟩, prog_9_method_43_code, 8, (some .int), { frames := 1, cells := 0, slots := 0, locals := 26 }, 1, 3, 7)
def t_127 : MT := (⟨RX7, "looks", "(IIIIII)I"⟩, prog_9_method_44_code, 16, (some .int), { frames := 4, cells := 0, slots := 0, locals := 92 }, 1, 6, 7)
def t_128 : MT := (⟨RX7, "triangles", "(IIIIII)I"⟩, prog_9_method_45_code, 8, (some .int), { frames := 5, cells := 0, slots := 0, locals := 127 }, 1, 6, 7)
def t_129 : MT := (⟨RX7, "open", "(I)I"⟩, prog_9_method_46_code, 5, (some .int), { frames := 5, cells := 0, slots := 0, locals := 127 }, 1, 1, 7)
def t_130 : MT := (⟨RX7, "hexagon", "(II)I"⟩, prog_9_method_47_code, 10, (some .int), { frames := 4, cells := 0, slots := 0, locals := 92 }, 1, 2, 7)
def t_131 : MT := (⟨RX7, "leads", "(IIIII)I"⟩, prog_9_method_48_code, 7, (some .int), { frames := 3, cells := 0, slots := 0, locals := 68 }, 1, 5, 7)
def t_132 : MT := (⟨RX7, "maps", "(IIII)V"⟩, prog_9_method_49_code, 9, none, { frames := 4, cells := 0, slots := 0, locals := 94 }, 1, 4, 7)
def t_133 : MT := (⟨RX7, "isMirror", "(II)Z"⟩, prog_9_method_50_code, 14, (some .boolean), { frames := 2, cells := 0, slots := 0, locals := 47 }, 1, 2, 7)
def t_134 : MT := (⟨RX7, "mirrors", "(II)I"⟩, prog_9_method_51_code, 8, (some .int), { frames := 5, cells := 0, slots := 0, locals := 122 }, 1, 2, 7)
def t_135 : MT := (⟨RX7, "held", "()I"⟩, prog_9_method_52_code, 3, (some .int), { frames := 5, cells := 0, slots := 0, locals := 123 }, 1, 0, 7)
def t_136 : MT := (⟨RX7, "share", "()I"⟩, prog_9_method_53_code, 2, (some .int), { frames := 6, cells := 0, slots := 0, locals := 145 }, 1, 0, 7)
def t_137 : MT := (⟨RX7, "products", "(Z)I"⟩, prog_9_method_54_code, 5, (some .int), { frames := 1, cells := 0, slots := 0, locals := 25 }, 1, 1, 7)
def t_138 : MT := (⟨RX7, "count", "(I)I"⟩, prog_9_method_55_code, 2, (some .int), { frames := 2, cells := 0, slots := 0, locals := 49 }, 1, 1, 7)
def t_139 : MT := (⟨RX7, "undo", "()I"⟩, prog_9_method_56_code, 2, (some .int), { frames := 0, cells := 0, slots := 0, locals := 0 }, 1, 0, 7)
def t_140 : MT := (⟨RX7, "type", "(I)I"⟩, prog_9_method_57_code, 2, (some .int), { frames := 1, cells := 0, slots := 0, locals := 22 }, 1, 1, 7)
def t_141 : MT := (⟨RX7, "clearText", "()I"⟩, prog_9_method_58_code, 2, (some .int), { frames := 0, cells := 0, slots := 0, locals := 0 }, 1, 0, 7)
def t_142 : MT := (⟨RX7, "isAt", "(III)Z"⟩, prog_9_method_59_code, 4, (some .boolean), { frames := 1, cells := 0, slots := 0, locals := 22 }, 1, 3, 7)
def t_143 : MT := (⟨RX7, "isRight", "()Z"⟩, prog_9_method_60_code, 2, (some .boolean), { frames := 2, cells := 0, slots := 0, locals := 45 }, 1, 0, 7)
def t_144 : MT := (⟨RX7, "fault", "(I)I"⟩, prog_9_method_61_code, 2, (some .int), { frames := 3, cells := 0, slots := 0, locals := 66 }, 1, 1, 7)
def t_145 : MT := (⟨RX7, "play", "()I"⟩, prog_9_method_62_code, 2, (some .int), { frames := 3, cells := 0, slots := 0, locals := 66 }, 1, 0, 7)
def t_146 : MT := (⟨RJxf58ca, "isNaN", "(F)Z"⟩, prog_10_method_6_code, 1, (some .boolean), { frames := 0, cells := 0, slots := 0, locals := 0 }, 0, 1, 8)
def t_147 : MT := (⟨RJxf58ca, "floatToIntBits", "(F)I"⟩, prog_10_method_24_code, 1, (some .int), { frames := 1, cells := 0, slots := 0, locals := 22 }, 0, 1, 8)
def t_148 : MT := (⟨RJ6, "bitCount", "(I)I"⟩, prog_11_method_49_code, 1, (some .int), { frames := 0, cells := 0, slots := 0, locals := 0 }, 0, 1, 9)
def m_tab : List MT := [t_0, t_1, t_2, t_3, t_4, t_5, t_6, t_7, t_8, t_9, t_10, t_11, t_12, t_13, t_14, t_15, t_16, t_17, t_18, t_19, t_20, t_21, t_22, t_23, t_24, t_25, t_26, t_27, t_28, t_29, t_30, t_31, t_32, t_33, t_34, t_35, t_36, t_37, t_38, t_39, t_40, t_41, t_42, t_43, t_44, t_45, t_46, t_47, t_48, t_49, t_50, t_51, t_52, t_53, t_54, t_55, t_56, t_57, t_58, t_59, t_60, t_61, t_62, t_63, t_64, t_65, t_66, t_67, t_68, t_69, t_70, t_71, t_72, t_73, t_74, t_75, t_76, t_77, t_78, t_79, t_80, t_81, t_82, t_83, t_84, t_85, t_86, t_87, t_88, t_89, t_90, t_91, t_92, t_93, t_94, t_95, t_96, t_97, t_98, t_99, t_100, t_101, t_102, t_103, t_104, t_105, t_106, t_107, t_108, t_109, t_110, t_111, t_112, t_113, t_114, t_115, t_116, t_117, t_118, t_119, t_120, t_121, t_122, t_123, t_124, t_125, t_126, t_127, t_128, t_129, t_130, t_131, t_132, t_133, t_134, t_135, t_136, t_137, t_138, t_139, t_140, t_141, t_142, t_143, t_144, t_145, t_146, t_147, t_148]
def m_get (mi : Nat) : MT := m_tab.getD mi t_0
def m_y (mi : Nat) : MethodName := (m_get mi).1
def m_cd (mi : Nat) : ByteArray := (m_get mi).2.1
def m_ml (mi : Nat) : Nat := (m_get mi).2.2.1
def m_ret (mi : Nat) : Option FieldType := (m_get mi).2.2.2.1
def m_rm (mi : Nat) : Room := (m_get mi).2.2.2.2.1
def m_kind (mi : Nat) : Nat := (m_get mi).2.2.2.2.2.1
def m_np (mi : Nat) : Nat := (m_get mi).2.2.2.2.2.2.1
def m_on (mi : Nat) : Nat := (m_get mi).2.2.2.2.2.2.2
def m_own (mi : Nat) : String := m_cn.getD (m_on mi) ""
def bd_0 : List BE := [(0, .new 7, 5, 0, 0), (3, .dup, 0, 0, 0), (4, .invokespecial 9, 58, 0, 0), (7, .astore_n 1, 0, 0, 0), (8, .new 10, 6, 0, 0), (11, .dup, 0, 0, 0), (12, .invokespecial 12, 85, 0, 0), (15, .astore_n 2, 0, 0, 0), (16, .iconst 0, 0, 0, 0), (17, .istore_n 3, 0, 0, 0), (18, .iload_n 3, 0, 0, 0), (19, .aload_n 0, 0, 0, 0), (20, .arraylength, 0, 0, 0), (21, .bipush 7, 0, 0, 7), (23, .isub, 0, 0, 0), (24, .if_icmp .gt 736, 760, 0, 0), (27, .aload_n 0, 0, 0, 0), (28, .iload_n 3, 0, 0, 0), (29, .iaload, 0, 0, 0), (30, .bipush 31, 0, 0, 31), (32, .iand, 0, 0, 0), (33, .tableswitch 721 0 21 #[103, 126, 139, 182, 195, 238, 271, 294, 327, 370, 413, 436, 511, 534, 567, 600, 613, 636, 649, 672, 685, 708], 0, 0, 0), (136, .aload_n 1, 0, 0, 0), (137, .aload_n 0, 0, 0, 0), (138, .iload_n 3, 0, 0, 0), (139, .iconst 1, 0, 0, 0), (140, .iadd, 0, 0, 0), (141, .iaload, 0, 0, 0), (142, .invokevirtual 13, 59, 0, 0), (145, .aload_n 2, 0, 0, 0), (146, .aload_n 0, 0, 0, 0), (147, .iload_n 3, 0, 0, 0), (148, .iconst 1, 0, 0, 0), (149, .iadd, 0, 0, 0), (150, .iaload, 0, 0, 0), (151, .invokevirtual 17, 97, 0, 0), (154, .if_icmp .eq 600, 754, 0, 0), (157, .iconst 0, 0, 0, 0), (158, .ireturn, 0, 0, 0), (159, .aload_n 1, 0, 0, 0), (160, .invokevirtual 18, 60, 0, 0), (163, .aload_n 2, 0, 0, 0), (164, .invokevirtual 22, 99, 0, 0), (167, .if_icmp .eq 587, 754, 0, 0), (170, .iconst 0, 0, 0, 0), (171, .ireturn, 0, 0, 0), (172, .aload_n 1, 0, 0, 0), (173, .aload_n 0, 0, 0, 0), (174, .iload_n 3, 0, 0, 0), (175, .iconst 1, 0, 0, 0), (176, .iadd, 0, 0, 0), (177, .iaload, 0, 0, 0), (178, .aload_n 0, 0, 0, 0), (179, .iload_n 3, 0, 0, 0), (180, .iconst 2, 0, 0, 0), (181, .iadd, 0, 0, 0), (182, .iaload, 0, 0, 0), (183, .aload_n 0, 0, 0, 0), (184, .iload_n 3, 0, 0, 0), (185, .iconst 3, 0, 0, 0), (186, .iadd, 0, 0, 0), (187, .iaload, 0, 0, 0), (188, .invokevirtual 23, 61, 0, 0), (191, .aload_n 2, 0, 0, 0), (192, .aload_n 0, 0, 0, 0), (193, .iload_n 3, 0, 0, 0), (194, .iconst 1, 0, 0, 0), (195, .iadd, 0, 0, 0), (196, .iaload, 0, 0, 0), (197, .aload_n 0, 0, 0, 0), (198, .iload_n 3, 0, 0, 0), (199, .iconst 2, 0, 0, 0), (200, .iadd, 0, 0, 0), (201, .iaload, 0, 0, 0), (202, .aload_n 0, 0, 0, 0), (203, .iload_n 3, 0, 0, 0), (204, .iconst 3, 0, 0, 0), (205, .iadd, 0, 0, 0), (206, .iaload, 0, 0, 0), (207, .invokevirtual 27, 100, 0, 0), (210, .if_icmp .eq 544, 754, 0, 0), (213, .iconst 0, 0, 0, 0), (214, .ireturn, 0, 0, 0), (215, .aload_n 1, 0, 0, 0), (216, .invokevirtual 28, 62, 0, 0), (219, .aload_n 2, 0, 0, 0), (220, .invokevirtual 31, 101, 0, 0), (223, .if_icmp .eq 531, 754, 0, 0), (226, .iconst 0, 0, 0, 0), (227, .ireturn, 0, 0, 0), (228, .aload_n 1, 0, 0, 0), (229, .aload_n 0, 0, 0, 0), (230, .iload_n 3, 0, 0, 0), (231, .iconst 1, 0, 0, 0), (232, .iadd, 0, 0, 0), (233, .iaload, 0, 0, 0), (234, .aload_n 0, 0, 0, 0), (235, .iload_n 3, 0, 0, 0), (236, .iconst 2, 0, 0, 0), (237, .iadd, 0, 0, 0), (238, .iaload, 0, 0, 0), (239, .aload_n 0, 0, 0, 0), (240, .iload_n 3, 0, 0, 0), (241, .iconst 3, 0, 0, 0), (242, .iadd, 0, 0, 0), (243, .iaload, 0, 0, 0), (244, .invokevirtual 32, 63, 0, 0), (247, .aload_n 2, 0, 0, 0), (248, .aload_n 0, 0, 0, 0), (249, .iload_n 3, 0, 0, 0), (250, .iconst 1, 0, 0, 0), (251, .iadd, 0, 0, 0), (252, .iaload, 0, 0, 0), (253, .aload_n 0, 0, 0, 0), (254, .iload_n 3, 0, 0, 0), (255, .iconst 2, 0, 0, 0), (256, .iadd, 0, 0, 0), (257, .iaload, 0, 0, 0), (258, .aload_n 0, 0, 0, 0), (259, .iload_n 3, 0, 0, 0), (260, .iconst 3, 0, 0, 0), (261, .iadd, 0, 0, 0), (262, .iaload, 0, 0, 0), (263, .invokevirtual 35, 102, 0, 0), (266, .if_icmp .eq 488, 754, 0, 0), (269, .iconst 0, 0, 0, 0), (270, .ireturn, 0, 0, 0), (271, .aload_n 1, 0, 0, 0), (272, .aload_n 0, 0, 0, 0), (273, .iload_n 3, 0, 0, 0), (274, .iconst 1, 0, 0, 0), (275, .iadd, 0, 0, 0), (276, .iaload, 0, 0, 0), (277, .aload_n 0, 0, 0, 0), (278, .iload_n 3, 0, 0, 0), (279, .iconst 2, 0, 0, 0), (280, .iadd, 0, 0, 0), (281, .iaload, 0, 0, 0), (282, .invokevirtual 36, 64, 0, 0), (285, .aload_n 2, 0, 0, 0), (286, .aload_n 0, 0, 0, 0), (287, .iload_n 3, 0, 0, 0), (288, .iconst 1, 0, 0, 0), (289, .iadd, 0, 0, 0), (290, .iaload, 0, 0, 0), (291, .aload_n 0, 0, 0, 0), (292, .iload_n 3, 0, 0, 0), (293, .iconst 2, 0, 0, 0), (294, .iadd, 0, 0, 0), (295, .iaload, 0, 0, 0), (296, .invokevirtual 40, 106, 0, 0), (299, .if_icmp .eq 455, 754, 0, 0), (302, .iconst 0, 0, 0, 0), (303, .ireturn, 0, 0, 0), (304, .aload_n 1, 0, 0, 0), (305, .aload_n 0, 0, 0, 0), (306, .iload_n 3, 0, 0, 0), (307, .iconst 1, 0, 0, 0), (308, .iadd, 0, 0, 0), (309, .iaload, 0, 0, 0), (310, .invokevirtual 41, 65, 0, 0), (313, .aload_n 2, 0, 0, 0), (314, .aload_n 0, 0, 0, 0), (315, .iload_n 3, 0, 0, 0), (316, .iconst 1, 0, 0, 0), (317, .iadd, 0, 0, 0), (318, .iaload, 0, 0, 0), (319, .invokevirtual 44, 108, 0, 0), (322, .if_icmp .eq 432, 754, 0, 0), (325, .iconst 0, 0, 0, 0), (326, .ireturn, 0, 0, 0), (327, .aload_n 1, 0, 0, 0), (328, .aload_n 0, 0, 0, 0), (329, .iload_n 3, 0, 0, 0), (330, .iconst 1, 0, 0, 0), (331, .iadd, 0, 0, 0), (332, .iaload, 0, 0, 0), (333, .aload_n 0, 0, 0, 0), (334, .iload_n 3, 0, 0, 0), (335, .iconst 2, 0, 0, 0), (336, .iadd, 0, 0, 0), (337, .iaload, 0, 0, 0), (338, .invokevirtual 45, 66, 0, 0), (341, .aload_n 2, 0, 0, 0), (342, .aload_n 0, 0, 0, 0), (343, .iload_n 3, 0, 0, 0), (344, .iconst 1, 0, 0, 0), (345, .iadd, 0, 0, 0), (346, .iaload, 0, 0, 0), (347, .aload_n 0, 0, 0, 0), (348, .iload_n 3, 0, 0, 0), (349, .iconst 2, 0, 0, 0), (350, .iadd, 0, 0, 0), (351, .iaload, 0, 0, 0), (352, .invokevirtual 48, 119, 0, 0), (355, .if_icmp .eq 399, 754, 0, 0), (358, .iconst 0, 0, 0, 0), (359, .ireturn, 0, 0, 0), (360, .aload_n 1, 0, 0, 0), (361, .aload_n 0, 0, 0, 0), (362, .iload_n 3, 0, 0, 0), (363, .iconst 1, 0, 0, 0), (364, .iadd, 0, 0, 0), (365, .iaload, 0, 0, 0), (366, .aload_n 0, 0, 0, 0), (367, .iload_n 3, 0, 0, 0), (368, .iconst 2, 0, 0, 0), (369, .iadd, 0, 0, 0), (370, .iaload, 0, 0, 0), (371, .aload_n 0, 0, 0, 0), (372, .iload_n 3, 0, 0, 0), (373, .iconst 3, 0, 0, 0), (374, .iadd, 0, 0, 0), (375, .iaload, 0, 0, 0), (376, .invokevirtual 49, 67, 0, 0), (379, .aload_n 2, 0, 0, 0), (380, .aload_n 0, 0, 0, 0), (381, .iload_n 3, 0, 0, 0), (382, .iconst 1, 0, 0, 0), (383, .iadd, 0, 0, 0), (384, .iaload, 0, 0, 0), (385, .aload_n 0, 0, 0, 0), (386, .iload_n 3, 0, 0, 0), (387, .iconst 2, 0, 0, 0), (388, .iadd, 0, 0, 0), (389, .iaload, 0, 0, 0), (390, .aload_n 0, 0, 0, 0), (391, .iload_n 3, 0, 0, 0), (392, .iconst 3, 0, 0, 0), (393, .iadd, 0, 0, 0), (394, .iaload, 0, 0, 0), (395, .invokevirtual 52, 121, 0, 0), (398, .if_icmp .eq 356, 754, 0, 0), (401, .iconst 0, 0, 0, 0), (402, .ireturn, 0, 0, 0), (403, .aload_n 1, 0, 0, 0), (404, .aload_n 0, 0, 0, 0), (405, .iload_n 3, 0, 0, 0), (406, .iconst 1, 0, 0, 0), (407, .iadd, 0, 0, 0), (408, .iaload, 0, 0, 0), (409, .aload_n 0, 0, 0, 0), (410, .iload_n 3, 0, 0, 0), (411, .iconst 2, 0, 0, 0), (412, .iadd, 0, 0, 0), (413, .iaload, 0, 0, 0), (414, .aload_n 0, 0, 0, 0), (415, .iload_n 3, 0, 0, 0), (416, .iconst 3, 0, 0, 0), (417, .iadd, 0, 0, 0), (418, .iaload, 0, 0, 0), (419, .invokevirtual 53, 68, 0, 0), (422, .aload_n 2, 0, 0, 0), (423, .aload_n 0, 0, 0, 0), (424, .iload_n 3, 0, 0, 0), (425, .iconst 1, 0, 0, 0), (426, .iadd, 0, 0, 0), (427, .iaload, 0, 0, 0), (428, .aload_n 0, 0, 0, 0), (429, .iload_n 3, 0, 0, 0), (430, .iconst 2, 0, 0, 0), (431, .iadd, 0, 0, 0), (432, .iaload, 0, 0, 0), (433, .aload_n 0, 0, 0, 0), (434, .iload_n 3, 0, 0, 0), (435, .iconst 3, 0, 0, 0), (436, .iadd, 0, 0, 0), (437, .iaload, 0, 0, 0), (438, .invokevirtual 56, 122, 0, 0), (441, .if_icmp .eq 313, 754, 0, 0), (444, .iconst 0, 0, 0, 0), (445, .ireturn, 0, 0, 0), (446, .aload_n 1, 0, 0, 0), (447, .aload_n 0, 0, 0, 0), (448, .iload_n 3, 0, 0, 0), (449, .iconst 1, 0, 0, 0), (450, .iadd, 0, 0, 0), (451, .iaload, 0, 0, 0), (452, .invokevirtual 57, 69, 0, 0), (455, .aload_n 2, 0, 0, 0), (456, .aload_n 0, 0, 0, 0), (457, .iload_n 3, 0, 0, 0), (458, .iconst 1, 0, 0, 0), (459, .iadd, 0, 0, 0), (460, .iaload, 0, 0, 0), (461, .invokevirtual 60, 123, 0, 0), (464, .if_icmp .eq 290, 754, 0, 0), (467, .iconst 0, 0, 0, 0), (468, .ireturn, 0, 0, 0), (469, .aload_n 1, 0, 0, 0), (470, .aload_n 0, 0, 0, 0), (471, .iload_n 3, 0, 0, 0), (472, .iconst 1, 0, 0, 0), (473, .iadd, 0, 0, 0), (474, .iaload, 0, 0, 0), (475, .aload_n 0, 0, 0, 0), (476, .iload_n 3, 0, 0, 0), (477, .iconst 2, 0, 0, 0), (478, .iadd, 0, 0, 0), (479, .iaload, 0, 0, 0), (480, .aload_n 0, 0, 0, 0), (481, .iload_n 3, 0, 0, 0), (482, .iconst 3, 0, 0, 0), (483, .iadd, 0, 0, 0), (484, .iaload, 0, 0, 0), (485, .aload_n 0, 0, 0, 0), (486, .iload_n 3, 0, 0, 0), (487, .iconst 4, 0, 0, 0), (488, .iadd, 0, 0, 0), (489, .iaload, 0, 0, 0), (490, .aload_n 0, 0, 0, 0), (491, .iload_n 3, 0, 0, 0), (492, .iconst 5, 0, 0, 0), (493, .iadd, 0, 0, 0), (494, .iaload, 0, 0, 0), (495, .aload_n 0, 0, 0, 0), (496, .iload_n 3, 0, 0, 0), (497, .bipush 6, 0, 0, 6), (499, .iadd, 0, 0, 0), (500, .iaload, 0, 0, 0), (501, .invokevirtual 61, 70, 0, 0), (504, .aload_n 2, 0, 0, 0), (505, .aload_n 0, 0, 0, 0), (506, .iload_n 3, 0, 0, 0), (507, .iconst 1, 0, 0, 0), (508, .iadd, 0, 0, 0), (509, .iaload, 0, 0, 0), (510, .aload_n 0, 0, 0, 0), (511, .iload_n 3, 0, 0, 0), (512, .iconst 2, 0, 0, 0), (513, .iadd, 0, 0, 0), (514, .iaload, 0, 0, 0), (515, .aload_n 0, 0, 0, 0), (516, .iload_n 3, 0, 0, 0), (517, .iconst 3, 0, 0, 0), (518, .iadd, 0, 0, 0), (519, .iaload, 0, 0, 0), (520, .aload_n 0, 0, 0, 0), (521, .iload_n 3, 0, 0, 0), (522, .iconst 4, 0, 0, 0), (523, .iadd, 0, 0, 0), (524, .iaload, 0, 0, 0), (525, .aload_n 0, 0, 0, 0), (526, .iload_n 3, 0, 0, 0), (527, .iconst 5, 0, 0, 0), (528, .iadd, 0, 0, 0), (529, .iaload, 0, 0, 0), (530, .aload_n 0, 0, 0, 0), (531, .iload_n 3, 0, 0, 0), (532, .bipush 6, 0, 0, 6), (534, .iadd, 0, 0, 0), (535, .iaload, 0, 0, 0), (536, .invokevirtual 65, 128, 0, 0), (539, .if_icmp .eq 215, 754, 0, 0), (542, .iconst 0, 0, 0, 0), (543, .ireturn, 0, 0, 0), (544, .aload_n 1, 0, 0, 0), (545, .aload_n 0, 0, 0, 0), (546, .iload_n 3, 0, 0, 0), (547, .iconst 1, 0, 0, 0), (548, .iadd, 0, 0, 0), (549, .iaload, 0, 0, 0), (550, .invokevirtual 66, 71, 0, 0), (553, .aload_n 2, 0, 0, 0), (554, .aload_n 0, 0, 0, 0), (555, .iload_n 3, 0, 0, 0), (556, .iconst 1, 0, 0, 0), (557, .iadd, 0, 0, 0), (558, .iaload, 0, 0, 0), (559, .invokevirtual 69, 129, 0, 0), (562, .if_icmp .eq 192, 754, 0, 0), (565, .iconst 0, 0, 0, 0), (566, .ireturn, 0, 0, 0), (567, .aload_n 1, 0, 0, 0), (568, .aload_n 0, 0, 0, 0), (569, .iload_n 3, 0, 0, 0), (570, .iconst 1, 0, 0, 0), (571, .iadd, 0, 0, 0), (572, .iaload, 0, 0, 0), (573, .aload_n 0, 0, 0, 0), (574, .iload_n 3, 0, 0, 0), (575, .iconst 2, 0, 0, 0), (576, .iadd, 0, 0, 0), (577, .iaload, 0, 0, 0), (578, .invokevirtual 70, 72, 0, 0), (581, .aload_n 2, 0, 0, 0), (582, .aload_n 0, 0, 0, 0), (583, .iload_n 3, 0, 0, 0), (584, .iconst 1, 0, 0, 0), (585, .iadd, 0, 0, 0), (586, .iaload, 0, 0, 0), (587, .aload_n 0, 0, 0, 0), (588, .iload_n 3, 0, 0, 0), (589, .iconst 2, 0, 0, 0), (590, .iadd, 0, 0, 0), (591, .iaload, 0, 0, 0), (592, .invokevirtual 73, 130, 0, 0), (595, .if_icmp .eq 159, 754, 0, 0), (598, .iconst 0, 0, 0, 0), (599, .ireturn, 0, 0, 0), (600, .aload_n 1, 0, 0, 0), (601, .aload_n 0, 0, 0, 0), (602, .iload_n 3, 0, 0, 0), (603, .iconst 1, 0, 0, 0), (604, .iadd, 0, 0, 0), (605, .iaload, 0, 0, 0), (606, .aload_n 0, 0, 0, 0), (607, .iload_n 3, 0, 0, 0), (608, .iconst 2, 0, 0, 0), (609, .iadd, 0, 0, 0), (610, .iaload, 0, 0, 0), (611, .invokevirtual 74, 73, 0, 0), (614, .aload_n 2, 0, 0, 0), (615, .aload_n 0, 0, 0, 0), (616, .iload_n 3, 0, 0, 0), (617, .iconst 1, 0, 0, 0), (618, .iadd, 0, 0, 0), (619, .iaload, 0, 0, 0), (620, .aload_n 0, 0, 0, 0), (621, .iload_n 3, 0, 0, 0), (622, .iconst 2, 0, 0, 0), (623, .iadd, 0, 0, 0), (624, .iaload, 0, 0, 0), (625, .invokevirtual 77, 134, 0, 0), (628, .if_icmp .eq 126, 754, 0, 0), (631, .iconst 0, 0, 0, 0), (632, .ireturn, 0, 0, 0), (633, .aload_n 1, 0, 0, 0), (634, .invokevirtual 78, 74, 0, 0), (637, .aload_n 2, 0, 0, 0), (638, .invokevirtual 81, 136, 0, 0), (641, .if_icmp .eq 113, 754, 0, 0), (644, .iconst 0, 0, 0, 0), (645, .ireturn, 0, 0, 0), (646, .aload_n 1, 0, 0, 0), (647, .aload_n 0, 0, 0, 0), (648, .iload_n 3, 0, 0, 0), (649, .iconst 1, 0, 0, 0), (650, .iadd, 0, 0, 0), (651, .iaload, 0, 0, 0), (652, .invokevirtual 82, 75, 0, 0), (655, .aload_n 2, 0, 0, 0), (656, .aload_n 0, 0, 0, 0), (657, .iload_n 3, 0, 0, 0), (658, .iconst 1, 0, 0, 0), (659, .iadd, 0, 0, 0), (660, .iaload, 0, 0, 0), (661, .invokevirtual 85, 138, 0, 0), (664, .if_icmp .eq 90, 754, 0, 0), (667, .iconst 0, 0, 0, 0), (668, .ireturn, 0, 0, 0), (669, .aload_n 1, 0, 0, 0), (670, .invokevirtual 86, 76, 0, 0), (673, .aload_n 2, 0, 0, 0), (674, .invokevirtual 89, 139, 0, 0), (677, .if_icmp .eq 77, 754, 0, 0), (680, .iconst 0, 0, 0, 0), (681, .ireturn, 0, 0, 0), (682, .aload_n 1, 0, 0, 0), (683, .aload_n 0, 0, 0, 0), (684, .iload_n 3, 0, 0, 0), (685, .iconst 1, 0, 0, 0), (686, .iadd, 0, 0, 0), (687, .iaload, 0, 0, 0), (688, .invokevirtual 90, 77, 0, 0), (691, .aload_n 2, 0, 0, 0), (692, .aload_n 0, 0, 0, 0), (693, .iload_n 3, 0, 0, 0), (694, .iconst 1, 0, 0, 0), (695, .iadd, 0, 0, 0), (696, .iaload, 0, 0, 0), (697, .invokevirtual 93, 140, 0, 0), (700, .if_icmp .eq 54, 754, 0, 0), (703, .iconst 0, 0, 0, 0), (704, .ireturn, 0, 0, 0), (705, .aload_n 1, 0, 0, 0), (706, .invokevirtual 94, 78, 0, 0), (709, .aload_n 2, 0, 0, 0), (710, .invokevirtual 97, 141, 0, 0), (713, .if_icmp .eq 41, 754, 0, 0), (716, .iconst 0, 0, 0, 0), (717, .ireturn, 0, 0, 0), (718, .aload_n 1, 0, 0, 0), (719, .aload_n 0, 0, 0, 0), (720, .iload_n 3, 0, 0, 0), (721, .iconst 1, 0, 0, 0), (722, .iadd, 0, 0, 0), (723, .iaload, 0, 0, 0), (724, .invokevirtual 98, 79, 0, 0), (727, .aload_n 2, 0, 0, 0), (728, .aload_n 0, 0, 0, 0), (729, .iload_n 3, 0, 0, 0), (730, .iconst 1, 0, 0, 0), (731, .iadd, 0, 0, 0), (732, .iaload, 0, 0, 0), (733, .invokevirtual 101, 144, 0, 0), (736, .if_icmp .eq 18, 754, 0, 0), (739, .iconst 0, 0, 0, 0), (740, .ireturn, 0, 0, 0), (741, .aload_n 1, 0, 0, 0), (742, .invokevirtual 102, 80, 0, 0), (745, .aload_n 2, 0, 0, 0), (746, .invokevirtual 105, 145, 0, 0), (749, .if_icmp .eq 5, 754, 0, 0), (752, .iconst 0, 0, 0, 0), (753, .ireturn, 0, 0, 0), (754, .iinc 3 7, 0, 0, 0), (757, .goto (-739), 18, 0, 0), (760, .iconst 1, 0, 0, 0), (761, .ireturn, 0, 0, 0)]
def bd_1 : List BE := [(0, .aload_n 0, 0, 0, 0), (1, .invokespecial 3, 1000, 0, 0), (4, .aload_n 0, 0, 0, 0), (5, .iconst 4, 0, 0, 0), (6, .newarray .int, 0, 0, 0), (8, .putfield 9, 0, 0, 1), (11, .aload_n 0, 0, 0, 0), (12, .sipush 324, 0, 0, 324), (15, .newarray .int, 0, 0, 0), (17, .putfield 15, 0, 1, 1), (20, .return_, 0, 0, 0)]
def bd_2 : List BE := [(0, .aload_n 0, 0, 0, 0), (1, .getfield 18, 0, 2, 0), (4, .iconst 4, 0, 0, 0), (5, .if_icmp .lt 7, 12, 0, 0), (8, .aload_n 0, 0, 0, 0), (9, .invokevirtual 22, 4, 0, 0), (12, .aload_n 0, 0, 0, 0), (13, .getfield 18, 0, 2, 0), (16, .ifCond .lt 55, 71, 0, 0), (19, .aload_n 0, 0, 0, 0), (20, .getfield 18, 0, 2, 0), (23, .iconst 4, 0, 0, 0), (24, .if_icmp .ge 47, 71, 0, 0), (27, .aload_n 0, 0, 0, 0), (28, .getfield 9, 0, 0, 0), (31, .aload_n 0, 0, 0, 0), (32, .getfield 18, 0, 2, 0), (35, .aload_n 1, 0, 0, 0), (36, .getfield 25, 3, 0, 0), (39, .iastore, 0, 0, 0), (40, .aload_n 1, 0, 0, 0), (41, .getfield 30, 3, 1, 0), (44, .iconst 0, 0, 0, 0), (45, .aload_n 0, 0, 0, 0), (46, .getfield 15, 0, 1, 0), (49, .aload_n 0, 0, 0, 0), (50, .getfield 18, 0, 2, 0), (53, .bipush 81, 0, 0, 81), (55, .imul, 0, 0, 0), (56, .bipush 81, 0, 0, 81), (58, .invokestatic 31, 1001, 0, 0), (61, .aload_n 0, 0, 0, 0), (62, .dup, 0, 0, 0), (63, .getfield 18, 0, 2, 0), (66, .iconst 1, 0, 0, 0), (67, .iadd, 0, 0, 0), (68, .putfield 18, 0, 2, 0), (71, .return_, 0, 0, 0)]
def bd_3 : List BE := [(0, .aload_n 0, 0, 0, 0), (1, .getfield 18, 0, 2, 0), (4, .ifCond .le 55, 59, 0, 0), (7, .aload_n 0, 0, 0, 0), (8, .getfield 18, 0, 2, 0), (11, .iconst 4, 0, 0, 0), (12, .if_icmp .gt 47, 59, 0, 0), (15, .aload_n 0, 0, 0, 0), (16, .dup, 0, 0, 0), (17, .getfield 18, 0, 2, 0), (20, .iconst 1, 0, 0, 0), (21, .isub, 0, 0, 0), (22, .putfield 18, 0, 2, 0), (25, .aload_n 1, 0, 0, 0), (26, .aload_n 0, 0, 0, 0), (27, .getfield 9, 0, 0, 0), (30, .aload_n 0, 0, 0, 0), (31, .getfield 18, 0, 2, 0), (34, .iaload, 0, 0, 0), (35, .putfield 25, 3, 0, 0), (38, .aload_n 0, 0, 0, 0), (39, .getfield 15, 0, 1, 0), (42, .aload_n 0, 0, 0, 0), (43, .getfield 18, 0, 2, 0), (46, .bipush 81, 0, 0, 81), (48, .imul, 0, 0, 0), (49, .aload_n 1, 0, 0, 0), (50, .getfield 30, 3, 1, 0), (53, .iconst 0, 0, 0, 0), (54, .bipush 81, 0, 0, 81), (56, .invokestatic 31, 1001, 0, 0), (59, .return_, 0, 0, 0)]
def bd_4 : List BE := [(0, .iconst 3, 0, 0, 0), (1, .istore_n 1, 0, 0, 0), (2, .aload_n 0, 0, 0, 0), (3, .getfield 9, 0, 0, 0), (6, .iconst 1, 0, 0, 0), (7, .aload_n 0, 0, 0, 0), (8, .getfield 9, 0, 0, 0), (11, .iconst 0, 0, 0, 0), (12, .iload_n 1, 0, 0, 0), (13, .invokestatic 31, 1001, 0, 0), (16, .aload_n 0, 0, 0, 0), (17, .getfield 15, 0, 1, 0), (20, .bipush 81, 0, 0, 81), (22, .aload_n 0, 0, 0, 0), (23, .getfield 15, 0, 1, 0), (26, .iconst 0, 0, 0, 0), (27, .iload_n 1, 0, 0, 0), (28, .bipush 81, 0, 0, 81), (30, .imul, 0, 0, 0), (31, .invokestatic 31, 1001, 0, 0), (34, .aload_n 0, 0, 0, 0), (35, .iload_n 1, 0, 0, 0), (36, .putfield 18, 0, 2, 0), (39, .return_, 0, 0, 0)]
def bd_5 : List BE := [(0, .iload_n 1, 0, 0, 0), (1, .iconst 1, 0, 0, 0), (2, .if_icmp .le 10, 12, 0, 0), (5, .aload_n 0, 0, 0, 0), (6, .getfield 9, 3, 0, 0), (9, .goto 4, 13, 0, 0), (12, .iconst 1, 0, 0, 0), (13, .istore_n 2, 0, 0, 0), (14, .iload_n 1, 0, 0, 0), (15, .iconst 1, 0, 0, 0), (16, .if_icmp .le 15, 31, 0, 0), (19, .iload_n 1, 0, 0, 0), (20, .iconst 5, 0, 0, 0), (21, .if_icmp .ge 10, 31, 0, 0), (24, .aload_n 0, 0, 0, 0), (25, .getfield 9, 3, 0, 0), (28, .goto 4, 32, 0, 0), (31, .iconst 1, 0, 0, 0), (32, .istore_n 3, 0, 0, 0), (33, .iconst 0, 0, 0, 0), (34, .istore 4, 0, 0, 0), (36, .iload 4, 0, 0, 0), (38, .aload_n 0, 0, 0, 0), (39, .getfield 9, 3, 0, 0), (42, .if_icmp .ge 68, 110, 0, 0), (45, .iconst 0, 0, 0, 0), (46, .istore 5, 0, 0, 0), (48, .iload 5, 0, 0, 0), (50, .iload_n 2, 0, 0, 0), (51, .if_icmp .ge 53, 104, 0, 0), (54, .iconst 0, 0, 0, 0), (55, .istore 6, 0, 0, 0), (57, .iload 6, 0, 0, 0), (59, .iload_n 3, 0, 0, 0), (60, .if_icmp .ge 38, 98, 0, 0), (63, .aload_n 0, 0, 0, 0), (64, .iload_n 1, 0, 0, 0), (65, .iload 4, 0, 0, 0), (67, .iload 5, 0, 0, 0), (69, .iload 6, 0, 0, 0), (71, .invokestatic 15, 7, 0, 0), (74, .ifCond .ne 18, 92, 0, 0), (77, .bipush 81, 0, 0, 81), (79, .iload 4, 0, 0, 0), (81, .imul, 0, 0, 0), (82, .bipush 9, 0, 0, 9), (84, .iload 5, 0, 0, 0), (86, .imul, 0, 0, 0), (87, .iadd, 0, 0, 0), (88, .iload 6, 0, 0, 0), (90, .iadd, 0, 0, 0), (91, .ireturn, 0, 0, 0), (92, .iinc 6 1, 0, 0, 0), (95, .goto (-38), 57, 0, 0), (98, .iinc 5 1, 0, 0, 0), (101, .goto (-53), 48, 0, 0), (104, .iinc 4 1, 0, 0, 0), (107, .goto (-71), 36, 0, 0), (110, .iconst (-1), 0, 0, 0), (111, .ireturn, 0, 0, 0)]
def bd_6 : List BE := [(0, .iload_n 1, 0, 0, 0), (1, .iconst 1, 0, 0, 0), (2, .if_icmp .ne 8, 10, 0, 0), (5, .iload_n 0, 0, 0, 0), (6, .bipush 81, 0, 0, 81), (8, .idiv, 0, 0, 0), (9, .ireturn, 0, 0, 0), (10, .iload_n 1, 0, 0, 0), (11, .iconst 2, 0, 0, 0), (12, .if_icmp .ne 13, 25, 0, 0), (15, .iload_n 0, 0, 0, 0), (16, .bipush 9, 0, 0, 9), (18, .idiv, 0, 0, 0), (19, .bipush 9, 0, 0, 9), (21, .irem, 0, 0, 0), (22, .goto 7, 29, 0, 0), (25, .iload_n 0, 0, 0, 0), (26, .bipush 9, 0, 0, 9), (28, .irem, 0, 0, 0), (29, .ireturn, 0, 0, 0)]
def bd_7 : List BE := [(0, .iload_n 1, 0, 0, 0), (1, .tableswitch 220 0 5 #[39, 63, 89, 127, 166, 199], 0, 0, 0), (40, .aload_n 0, 0, 0, 0), (41, .iconst 0, 0, 0, 0), (42, .iload_n 2, 0, 0, 0), (43, .invokevirtual 21, 40, 0, 0), (46, .ifCond .ne 16, 62, 0, 0), (49, .aload_n 0, 0, 0, 0), (50, .iload_n 2, 0, 0, 0), (51, .iconst 0, 0, 0, 0), (52, .invokevirtual 21, 40, 0, 0), (55, .ifCond .ne 7, 62, 0, 0), (58, .iconst 1, 0, 0, 0), (59, .goto 4, 63, 0, 0), (62, .iconst 0, 0, 0, 0), (63, .ireturn, 0, 0, 0), (64, .aload_n 0, 0, 0, 0), (65, .iconst 1, 0, 0, 0), (66, .iload_n 2, 0, 0, 0), (67, .invokevirtual 21, 40, 0, 0), (70, .iload_n 2, 0, 0, 0), (71, .if_icmp .ne 17, 88, 0, 0), (74, .aload_n 0, 0, 0, 0), (75, .iload_n 2, 0, 0, 0), (76, .iconst 1, 0, 0, 0), (77, .invokevirtual 21, 40, 0, 0), (80, .iload_n 2, 0, 0, 0), (81, .if_icmp .ne 7, 88, 0, 0), (84, .iconst 1, 0, 0, 0), (85, .goto 4, 89, 0, 0), (88, .iconst 0, 0, 0, 0), (89, .ireturn, 0, 0, 0), (90, .aload_n 0, 0, 0, 0), (91, .iload_n 2, 0, 0, 0), (92, .aload_n 0, 0, 0, 0), (93, .iload_n 3, 0, 0, 0), (94, .iload 4, 0, 0, 0), (96, .invokevirtual 25, 38, 0, 0), (99, .invokevirtual 21, 40, 0, 0), (102, .aload_n 0, 0, 0, 0), (103, .aload_n 0, 0, 0, 0), (104, .iload_n 2, 0, 0, 0), (105, .iload_n 3, 0, 0, 0), (106, .invokevirtual 21, 40, 0, 0), (109, .aload_n 0, 0, 0, 0), (110, .iload_n 2, 0, 0, 0), (111, .iload 4, 0, 0, 0), (113, .invokevirtual 21, 40, 0, 0), (116, .invokevirtual 25, 38, 0, 0), (119, .if_icmp .ne 7, 126, 0, 0), (122, .iconst 1, 0, 0, 0), (123, .goto 4, 127, 0, 0), (126, .iconst 0, 0, 0, 0), (127, .ireturn, 0, 0, 0), (128, .aload_n 0, 0, 0, 0), (129, .aload_n 0, 0, 0, 0), (130, .iload_n 2, 0, 0, 0), (131, .iload_n 3, 0, 0, 0), (132, .invokevirtual 25, 38, 0, 0), (135, .iload 4, 0, 0, 0), (137, .invokevirtual 21, 40, 0, 0), (140, .aload_n 0, 0, 0, 0), (141, .aload_n 0, 0, 0, 0), (142, .iload_n 2, 0, 0, 0), (143, .iload 4, 0, 0, 0), (145, .invokevirtual 21, 40, 0, 0), (148, .aload_n 0, 0, 0, 0), (149, .iload_n 3, 0, 0, 0), (150, .iload 4, 0, 0, 0), (152, .invokevirtual 21, 40, 0, 0), (155, .invokevirtual 25, 38, 0, 0), (158, .if_icmp .ne 7, 165, 0, 0), (161, .iconst 1, 0, 0, 0), (162, .goto 4, 166, 0, 0), (165, .iconst 0, 0, 0, 0), (166, .ireturn, 0, 0, 0), (167, .aload_n 0, 0, 0, 0), (168, .aload_n 0, 0, 0, 0), (169, .iload_n 2, 0, 0, 0), (170, .iload_n 3, 0, 0, 0), (171, .invokevirtual 21, 40, 0, 0), (174, .iload 4, 0, 0, 0), (176, .invokevirtual 21, 40, 0, 0), (179, .aload_n 0, 0, 0, 0), (180, .iload_n 2, 0, 0, 0), (181, .aload_n 0, 0, 0, 0), (182, .iload_n 3, 0, 0, 0), (183, .iload 4, 0, 0, 0), (185, .invokevirtual 21, 40, 0, 0), (188, .invokevirtual 21, 40, 0, 0), (191, .if_icmp .ne 7, 198, 0, 0), (194, .iconst 1, 0, 0, 0), (195, .goto 4, 199, 0, 0), (198, .iconst 0, 0, 0, 0), (199, .ireturn, 0, 0, 0), (200, .aload_n 0, 0, 0, 0), (201, .iload_n 2, 0, 0, 0), (202, .iload_n 3, 0, 0, 0), (203, .invokevirtual 21, 40, 0, 0), (206, .aload_n 0, 0, 0, 0), (207, .iload_n 3, 0, 0, 0), (208, .iload_n 2, 0, 0, 0), (209, .invokevirtual 21, 40, 0, 0), (212, .if_icmp .ne 7, 219, 0, 0), (215, .iconst 1, 0, 0, 0), (216, .goto 4, 220, 0, 0), (219, .iconst 0, 0, 0, 0), (220, .ireturn, 0, 0, 0), (221, .iload_n 2, 0, 0, 0), (222, .iload_n 3, 0, 0, 0), (223, .if_icmp .eq 27, 250, 0, 0), (226, .aload_n 0, 0, 0, 0), (227, .iload_n 2, 0, 0, 0), (228, .iload_n 3, 0, 0, 0), (229, .iload_n 1, 0, 0, 0), (230, .bipush 6, 0, 0, 6), (232, .if_icmp .ne 7, 239, 0, 0), (235, .iconst 1, 0, 0, 0), (236, .goto 4, 240, 0, 0), (239, .iconst 0, 0, 0, 0), (240, .invokestatic 28, 11, 0, 0), (243, .aload_n 0, 0, 0, 0), (244, .getfield 9, 3, 0, 0), (247, .if_icmp .ne 7, 254, 0, 0), (250, .iconst 1, 0, 0, 0), (251, .goto 4, 255, 0, 0), (254, .iconst 0, 0, 0, 0), (255, .ireturn, 0, 0, 0)]
def bd_8 : List BE := [(0, .iload_n 1, 0, 0, 0), (1, .ifCond .ne 7, 8, 0, 0), (4, .iconst 1, 0, 0, 0), (5, .goto 7, 12, 0, 0), (8, .aload_n 0, 0, 0, 0), (9, .getfield 9, 3, 0, 0), (12, .istore_n 3, 0, 0, 0), (13, .iconst 0, 0, 0, 0), (14, .istore 4, 0, 0, 0), (16, .iload 4, 0, 0, 0), (18, .aload_n 0, 0, 0, 0), (19, .getfield 9, 3, 0, 0), (22, .if_icmp .ge 39, 61, 0, 0), (25, .iconst 0, 0, 0, 0), (26, .istore 5, 0, 0, 0), (28, .iload 5, 0, 0, 0), (30, .iload_n 3, 0, 0, 0), (31, .if_icmp .ge 24, 55, 0, 0), (34, .aload_n 0, 0, 0, 0), (35, .iload_n 1, 0, 0, 0), (36, .iload_n 2, 0, 0, 0), (37, .iload 4, 0, 0, 0), (39, .iload 5, 0, 0, 0), (41, .invokestatic 32, 9, 0, 0), (44, .ifCond .ne 5, 49, 0, 0), (47, .iconst 0, 0, 0, 0), (48, .ireturn, 0, 0, 0), (49, .iinc 5 1, 0, 0, 0), (52, .goto (-24), 28, 0, 0), (55, .iinc 4 1, 0, 0, 0), (58, .goto (-42), 16, 0, 0), (61, .iconst 1, 0, 0, 0), (62, .ireturn, 0, 0, 0)]
def bd_9 : List BE := [(0, .iload_n 1, 0, 0, 0), (1, .ifCond .ne 12, 13, 0, 0), (4, .aload_n 0, 0, 0, 0), (5, .iconst 5, 0, 0, 0), (6, .iload_n 2, 0, 0, 0), (7, .iload_n 3, 0, 0, 0), (8, .iconst 0, 0, 0, 0), (9, .invokestatic 15, 7, 0, 0), (12, .ireturn, 0, 0, 0), (13, .iload_n 1, 0, 0, 0), (14, .iconst 1, 0, 0, 0), (15, .if_icmp .ne 15, 30, 0, 0), (18, .aload_n 0, 0, 0, 0), (19, .iconst 3, 0, 0, 0), (20, .iload_n 3, 0, 0, 0), (21, .iload 4, 0, 0, 0), (23, .iload_n 2, 0, 0, 0), (24, .invokestatic 15, 7, 0, 0), (27, .goto 12, 39, 0, 0), (30, .aload_n 0, 0, 0, 0), (31, .iconst 4, 0, 0, 0), (32, .iload_n 2, 0, 0, 0), (33, .iload_n 3, 0, 0, 0), (34, .iload 4, 0, 0, 0), (36, .invokestatic 15, 7, 0, 0), (39, .ireturn, 0, 0, 0)]
def bd_10 : List BE := [(0, .iconst 0, 0, 0, 0), (1, .istore_n 2, 0, 0, 0), (2, .iconst 1, 0, 0, 0), (3, .istore_n 3, 0, 0, 0), (4, .iload_n 3, 0, 0, 0), (5, .aload_n 0, 0, 0, 0), (6, .getfield 9, 3, 0, 0), (9, .if_icmp .ge 40, 49, 0, 0), (12, .iconst 0, 0, 0, 0), (13, .istore 4, 0, 0, 0), (15, .iload 4, 0, 0, 0), (17, .iload_n 3, 0, 0, 0), (18, .if_icmp .ge 25, 43, 0, 0), (21, .iload_n 2, 0, 0, 0), (22, .aload_n 0, 0, 0, 0), (23, .getfield 9, 3, 0, 0), (26, .aload_n 0, 0, 0, 0), (27, .iload_n 3, 0, 0, 0), (28, .iload 4, 0, 0, 0), (30, .iload_n 1, 0, 0, 0), (31, .invokestatic 28, 11, 0, 0), (34, .isub, 0, 0, 0), (35, .iadd, 0, 0, 0), (36, .istore_n 2, 0, 0, 0), (37, .iinc 4 1, 0, 0, 0), (40, .goto (-25), 15, 0, 0), (43, .iinc 3 1, 0, 0, 0), (46, .goto (-42), 4, 0, 0), (49, .iload_n 2, 0, 0, 0), (50, .aload_n 0, 0, 0, 0), (51, .getfield 9, 3, 0, 0), (54, .imul, 0, 0, 0), (55, .ireturn, 0, 0, 0)]
def bd_11 : List BE := [(0, .iconst 0, 0, 0, 0), (1, .istore 4, 0, 0, 0), (3, .iconst 0, 0, 0, 0), (4, .istore 5, 0, 0, 0), (6, .iconst 0, 0, 0, 0), (7, .istore 6, 0, 0, 0), (9, .iload 6, 0, 0, 0), (11, .aload_n 0, 0, 0, 0), (12, .getfield 9, 3, 0, 0), (15, .if_icmp .ge 50, 65, 0, 0), (18, .iconst 1, 0, 0, 0), (19, .aload_n 0, 0, 0, 0), (20, .aload_n 0, 0, 0, 0), (21, .iload_n 1, 0, 0, 0), (22, .iload 6, 0, 0, 0), (24, .iload_n 3, 0, 0, 0), (25, .invokevirtual 35, 41, 0, 0), (28, .aload_n 0, 0, 0, 0), (29, .iload_n 2, 0, 0, 0), (30, .iload 6, 0, 0, 0), (32, .iload_n 3, 0, 0, 0), (33, .invokevirtual 35, 41, 0, 0), (36, .invokevirtual 39, 39, 0, 0), (39, .ishl, 0, 0, 0), (40, .istore 7, 0, 0, 0), (42, .iload 5, 0, 0, 0), (44, .iload 4, 0, 0, 0), (46, .iload 7, 0, 0, 0), (48, .iand, 0, 0, 0), (49, .ior, 0, 0, 0), (50, .istore 5, 0, 0, 0), (52, .iload 4, 0, 0, 0), (54, .iload 7, 0, 0, 0), (56, .ior, 0, 0, 0), (57, .istore 4, 0, 0, 0), (59, .iinc 6 1, 0, 0, 0), (62, .goto (-53), 9, 0, 0), (65, .iload 4, 0, 0, 0), (67, .iload 5, 0, 0, 0), (69, .iconst (-1), 0, 0, 0), (70, .ixor, 0, 0, 0), (71, .iand, 0, 0, 0), (72, .invokestatic 42, 148, 0, 0), (75, .ireturn, 0, 0, 0)]
def bd_12 : List BE := [(0, .aload_n 0, 0, 0, 0), (1, .invokespecial 3, 1000, 0, 0), (4, .aload_n 0, 0, 0, 0), (5, .bipush 91, 0, 0, 91), (7, .newarray .int, 0, 0, 0), (9, .putfield 9, 1, 0, 1), (12, .aload_n 0, 0, 0, 0), (13, .bipush 91, 0, 0, 91), (15, .newarray .int, 0, 0, 0), (17, .putfield 15, 1, 1, 1), (20, .aload_n 0, 0, 0, 0), (21, .bipush 91, 0, 0, 91), (23, .newarray .int, 0, 0, 0), (25, .putfield 18, 1, 2, 1), (28, .return_, 0, 0, 0)]
def bd_13 : List BE := [(0, .aload_n 0, 0, 0, 0), (1, .aload_n 1, 0, 0, 0), (2, .iload_n 2, 0, 0, 0), (3, .iload_n 3, 0, 0, 0), (4, .invokevirtual 21, 14, 0, 0), (7, .aload_n 0, 0, 0, 0), (8, .aload_n 1, 0, 0, 0), (9, .iload_n 2, 0, 0, 0), (10, .invokevirtual 25, 15, 0, 0), (13, .iconst 0, 0, 0, 0), (14, .istore 4, 0, 0, 0), (16, .iconst 0, 0, 0, 0), (17, .istore 5, 0, 0, 0), (19, .iload 5, 0, 0, 0), (21, .aload_n 1, 0, 0, 0), (22, .getfield 29, 2, 0, 0), (25, .getfield 35, 3, 0, 0), (28, .if_icmp .gt 44, 72, 0, 0), (31, .aload_n 1, 0, 0, 0), (32, .aload_n 0, 0, 0, 0), (33, .getfield 41, 1, 4, 0), (36, .iload 5, 0, 0, 0), (38, .invokevirtual 44, 27, 0, 0), (41, .istore 6, 0, 0, 0), (43, .aload_n 0, 0, 0, 0), (44, .iload 6, 0, 0, 0), (46, .invokevirtual 48, 17, 0, 0), (49, .iconst (-1), 0, 0, 0), (50, .if_icmp .eq 16, 66, 0, 0), (53, .aload_n 0, 0, 0, 0), (54, .aload_n 1, 0, 0, 0), (55, .iload 6, 0, 0, 0), (57, .invokevirtual 52, 19, 0, 0), (60, .ifCond .eq 6, 66, 0, 0), (63, .iinc 4 1, 0, 0, 0), (66, .iinc 5 1, 0, 0, 0), (69, .goto (-50), 19, 0, 0), (72, .iload 4, 0, 0, 0), (74, .ireturn, 0, 0, 0)]
def bd_14 : List BE := [(0, .aload_n 0, 0, 0, 0), (1, .aload_n 1, 0, 0, 0), (2, .invokevirtual 56, 23, 0, 0), (5, .putfield 60, 1, 3, 0), (8, .iconst 0, 0, 0, 0), (9, .istore 4, 0, 0, 0), (11, .iload 4, 0, 0, 0), (13, .aload_n 0, 0, 0, 0), (14, .getfield 60, 1, 3, 0), (17, .if_icmp .ge 71, 88, 0, 0), (20, .iload 4, 0, 0, 0), (22, .bipush 91, 0, 0, 91), (24, .if_icmp .ge 64, 88, 0, 0), (27, .iload 4, 0, 0, 0), (29, .iload_n 3, 0, 0, 0), (30, .if_icmp .eq 17, 47, 0, 0), (33, .aload_n 1, 0, 0, 0), (34, .iload 4, 0, 0, 0), (36, .iload_n 2, 0, 0, 0), (37, .invokevirtual 63, 26, 0, 0), (40, .ifCond .ne 7, 47, 0, 0), (43, .iconst 1, 0, 0, 0), (44, .goto 4, 48, 0, 0), (47, .iconst 0, 0, 0, 0), (48, .istore 5, 0, 0, 0), (50, .aload_n 0, 0, 0, 0), (51, .getfield 9, 1, 0, 0), (54, .iload 4, 0, 0, 0), (56, .iload 5, 0, 0, 0), (58, .ifCond .eq 13, 71, 0, 0), (61, .aload_n 1, 0, 0, 0), (62, .iload_n 3, 0, 0, 0), (63, .iload 4, 0, 0, 0), (65, .invokevirtual 67, 29, 0, 0), (68, .goto 4, 72, 0, 0), (71, .iconst (-1), 0, 0, 0), (72, .iastore, 0, 0, 0), (73, .aload_n 0, 0, 0, 0), (74, .getfield 18, 1, 2, 0), (77, .iload 4, 0, 0, 0), (79, .iload 4, 0, 0, 0), (81, .iastore, 0, 0, 0), (82, .iinc 4 1, 0, 0, 0), (85, .goto (-74), 11, 0, 0), (88, .return_, 0, 0, 0)]
def bd_15 : List BE := [(0, .aload_n 0, 0, 0, 0), (1, .iconst (-1), 0, 0, 0), (2, .invokevirtual 70, 16, 0, 0), (5, .istore_n 3, 0, 0, 0), (6, .aload_n 0, 0, 0, 0), (7, .aload_n 0, 0, 0, 0), (8, .iload_n 3, 0, 0, 0), (9, .invokevirtual 48, 17, 0, 0), (12, .putfield 41, 1, 4, 0), (15, .aload_n 0, 0, 0, 0), (16, .aload_n 0, 0, 0, 0), (17, .aload_n 0, 0, 0, 0), (18, .getfield 41, 1, 4, 0), (21, .invokevirtual 70, 16, 0, 0), (24, .putfield 73, 1, 5, 0), (27, .iconst 0, 0, 0, 0), (28, .istore 4, 0, 0, 0), (30, .iload 4, 0, 0, 0), (32, .aload_n 0, 0, 0, 0), (33, .getfield 60, 1, 3, 0), (36, .if_icmp .ge 75, 111, 0, 0), (39, .iload 4, 0, 0, 0), (41, .bipush 91, 0, 0, 91), (43, .if_icmp .ge 68, 111, 0, 0), (46, .aload_n 0, 0, 0, 0), (47, .getfield 9, 1, 0, 0), (50, .iload 4, 0, 0, 0), (52, .iaload, 0, 0, 0), (53, .aload_n 0, 0, 0, 0), (54, .getfield 41, 1, 4, 0), (57, .if_icmp .ne 10, 67, 0, 0), (60, .aload_n 0, 0, 0, 0), (61, .getfield 73, 1, 5, 0), (64, .goto 4, 68, 0, 0), (67, .iload_n 3, 0, 0, 0), (68, .istore 5, 0, 0, 0), (70, .aload_n 0, 0, 0, 0), (71, .getfield 15, 1, 1, 0), (74, .iload 4, 0, 0, 0), (76, .aload_n 0, 0, 0, 0), (77, .getfield 9, 1, 0, 0), (80, .iload 4, 0, 0, 0), (82, .iaload, 0, 0, 0), (83, .iconst (-1), 0, 0, 0), (84, .if_icmp .ne 7, 91, 0, 0), (87, .iconst (-1), 0, 0, 0), (88, .goto 16, 104, 0, 0), (91, .aload_n 1, 0, 0, 0), (92, .aload_n 1, 0, 0, 0), (93, .iload 5, 0, 0, 0), (95, .iload 4, 0, 0, 0), (97, .invokevirtual 67, 29, 0, 0), (100, .iload_n 2, 0, 0, 0), (101, .invokevirtual 76, 30, 0, 0), (104, .iastore, 0, 0, 0), (105, .iinc 4 1, 0, 0, 0), (108, .goto (-78), 30, 0, 0), (111, .return_, 0, 0, 0)]
def bd_16 : List BE := [(0, .iconst 0, 0, 0, 0), (1, .istore_n 2, 0, 0, 0), (2, .iload_n 2, 0, 0, 0), (3, .aload_n 0, 0, 0, 0), (4, .getfield 60, 1, 3, 0), (7, .if_icmp .ge 35, 42, 0, 0), (10, .iload_n 2, 0, 0, 0), (11, .bipush 91, 0, 0, 91), (13, .if_icmp .ge 29, 42, 0, 0), (16, .aload_n 0, 0, 0, 0), (17, .iload_n 2, 0, 0, 0), (18, .invokevirtual 48, 17, 0, 0), (21, .iconst (-1), 0, 0, 0), (22, .if_icmp .eq 14, 36, 0, 0), (25, .aload_n 0, 0, 0, 0), (26, .iload_n 2, 0, 0, 0), (27, .invokevirtual 48, 17, 0, 0), (30, .iload_n 1, 0, 0, 0), (31, .if_icmp .eq 5, 36, 0, 0), (34, .iload_n 2, 0, 0, 0), (35, .ireturn, 0, 0, 0), (36, .iinc 2 1, 0, 0, 0), (39, .goto (-37), 2, 0, 0), (42, .iconst (-1), 0, 0, 0), (43, .ireturn, 0, 0, 0)]
def bd_17 : List BE := [(0, .iload_n 1, 0, 0, 0), (1, .ifCond .lt 21, 22, 0, 0), (4, .iload_n 1, 0, 0, 0), (5, .aload_n 0, 0, 0, 0), (6, .getfield 9, 1, 0, 0), (9, .arraylength, 0, 0, 0), (10, .if_icmp .ge 12, 22, 0, 0), (13, .aload_n 0, 0, 0, 0), (14, .getfield 9, 1, 0, 0), (17, .iload_n 1, 0, 0, 0), (18, .iaload, 0, 0, 0), (19, .goto 4, 23, 0, 0), (22, .iconst (-1), 0, 0, 0), (23, .ireturn, 0, 0, 0)]
def bd_18 : List BE := [(0, .iload_n 1, 0, 0, 0), (1, .ifCond .lt 21, 22, 0, 0), (4, .iload_n 1, 0, 0, 0), (5, .aload_n 0, 0, 0, 0), (6, .getfield 18, 1, 2, 0), (9, .arraylength, 0, 0, 0), (10, .if_icmp .ge 12, 22, 0, 0), (13, .aload_n 0, 0, 0, 0), (14, .getfield 18, 1, 2, 0), (17, .iload_n 1, 0, 0, 0), (18, .iaload, 0, 0, 0), (19, .goto 4, 23, 0, 0), (22, .iconst (-1), 0, 0, 0), (23, .ireturn, 0, 0, 0)]
def bd_19 : List BE := [(0, .aload_n 0, 0, 0, 0), (1, .aload_n 1, 0, 0, 0), (2, .iconst 0, 0, 0, 0), (3, .iload_n 2, 0, 0, 0), (4, .invokevirtual 79, 20, 0, 0), (7, .aload_n 0, 0, 0, 0), (8, .aload_n 1, 0, 0, 0), (9, .iconst 1, 0, 0, 0), (10, .aload_n 0, 0, 0, 0), (11, .aload_n 0, 0, 0, 0), (12, .getfield 73, 1, 5, 0), (15, .invokevirtual 83, 18, 0, 0), (18, .invokevirtual 79, 20, 0, 0), (21, .iconst 0, 0, 0, 0), (22, .istore_n 3, 0, 0, 0), (23, .iload_n 3, 0, 0, 0), (24, .aload_n 0, 0, 0, 0), (25, .getfield 60, 1, 3, 0), (28, .if_icmp .ge 20, 48, 0, 0), (31, .aload_n 0, 0, 0, 0), (32, .aload_n 1, 0, 0, 0), (33, .iload_n 3, 0, 0, 0), (34, .invokevirtual 86, 21, 0, 0), (37, .ifCond .ne 5, 42, 0, 0), (40, .iconst 0, 0, 0, 0), (41, .ireturn, 0, 0, 0), (42, .iinc 3 1, 0, 0, 0), (45, .goto (-22), 23, 0, 0), (48, .iconst 1, 0, 0, 0), (49, .ireturn, 0, 0, 0)]
def bd_20 : List BE := [(0, .iconst 0, 0, 0, 0), (1, .istore 4, 0, 0, 0), (3, .iload 4, 0, 0, 0), (5, .aload_n 0, 0, 0, 0), (6, .getfield 60, 1, 3, 0), (9, .if_icmp .ge 80, 89, 0, 0), (12, .iload 4, 0, 0, 0), (14, .bipush 91, 0, 0, 91), (16, .if_icmp .ge 73, 89, 0, 0), (19, .aload_n 0, 0, 0, 0), (20, .getfield 9, 1, 0, 0), (23, .iload 4, 0, 0, 0), (25, .iaload, 0, 0, 0), (26, .iconst (-1), 0, 0, 0), (27, .if_icmp .eq 56, 83, 0, 0), (30, .aload_n 0, 0, 0, 0), (31, .getfield 9, 1, 0, 0), (34, .iload 4, 0, 0, 0), (36, .iaload, 0, 0, 0), (37, .aload_n 0, 0, 0, 0), (38, .getfield 41, 1, 4, 0), (41, .if_icmp .ne 7, 48, 0, 0), (44, .iconst 1, 0, 0, 0), (45, .goto 4, 49, 0, 0), (48, .iconst 0, 0, 0, 0), (49, .iload_n 2, 0, 0, 0), (50, .if_icmp .ne 33, 83, 0, 0), (53, .aload_n 0, 0, 0, 0), (54, .getfield 18, 1, 2, 0), (57, .iload 4, 0, 0, 0), (59, .aload_n 1, 0, 0, 0), (60, .aload_n 0, 0, 0, 0), (61, .getfield 9, 1, 0, 0), (64, .iload 4, 0, 0, 0), (66, .iaload, 0, 0, 0), (67, .aload_n 1, 0, 0, 0), (68, .aload_n 0, 0, 0, 0), (69, .getfield 15, 1, 1, 0), (72, .iload 4, 0, 0, 0), (74, .iaload, 0, 0, 0), (75, .iload_n 3, 0, 0, 0), (76, .invokevirtual 67, 29, 0, 0), (79, .invokevirtual 76, 30, 0, 0), (82, .iastore, 0, 0, 0), (83, .iinc 4 1, 0, 0, 0), (86, .goto (-83), 3, 0, 0), (89, .return_, 0, 0, 0)]
def bd_21 : List BE := [(0, .aload_n 0, 0, 0, 0), (1, .aload_n 1, 0, 0, 0), (2, .iload_n 2, 0, 0, 0), (3, .iconst 0, 0, 0, 0), (4, .invokevirtual 44, 27, 0, 0), (7, .invokevirtual 83, 18, 0, 0), (10, .istore_n 3, 0, 0, 0), (11, .aload_n 0, 0, 0, 0), (12, .aload_n 1, 0, 0, 0), (13, .iload_n 2, 0, 0, 0), (14, .iconst 1, 0, 0, 0), (15, .invokevirtual 44, 27, 0, 0), (18, .invokevirtual 83, 18, 0, 0), (21, .istore 4, 0, 0, 0), (23, .aload_n 1, 0, 0, 0), (24, .iload_n 3, 0, 0, 0), (25, .iload 4, 0, 0, 0), (27, .invokevirtual 67, 29, 0, 0), (30, .istore 5, 0, 0, 0), (32, .iconst 2, 0, 0, 0), (33, .istore 6, 0, 0, 0), (35, .iload 6, 0, 0, 0), (37, .aload_n 1, 0, 0, 0), (38, .getfield 29, 2, 0, 0), (41, .getfield 35, 3, 0, 0), (44, .if_icmp .gt 31, 75, 0, 0), (47, .aload_n 1, 0, 0, 0), (48, .aload_n 0, 0, 0, 0), (49, .aload_n 1, 0, 0, 0), (50, .iload_n 2, 0, 0, 0), (51, .iload 6, 0, 0, 0), (53, .invokevirtual 44, 27, 0, 0), (56, .invokevirtual 83, 18, 0, 0), (59, .iload 5, 0, 0, 0), (61, .invokevirtual 63, 26, 0, 0), (64, .ifCond .ne 5, 69, 0, 0), (67, .iconst 0, 0, 0, 0), (68, .ireturn, 0, 0, 0), (69, .iinc 6 1, 0, 0, 0), (72, .goto (-37), 35, 0, 0), (75, .iconst 1, 0, 0, 0), (76, .ireturn, 0, 0, 0)]
def bd_22 : List BE := [(0, .aload_n 0, 0, 0, 0), (1, .invokespecial 3, 1000, 0, 0), (4, .aload_n 0, 0, 0, 0), (5, .new 9, 3, 0, 0), (8, .dup, 0, 0, 0), (9, .invokespecial 11, 36, 0, 0), (12, .putfield 12, 2, 0, 1), (15, .return_, 0, 0, 0)]
def bd_23 : List BE := [(0, .aload_n 0, 0, 0, 0), (1, .getfield 12, 2, 0, 0), (4, .getfield 18, 3, 0, 0), (7, .aload_n 0, 0, 0, 0), (8, .getfield 12, 2, 0, 0), (11, .getfield 18, 3, 0, 0), (14, .imul, 0, 0, 0), (15, .aload_n 0, 0, 0, 0), (16, .getfield 12, 2, 0, 0), (19, .getfield 18, 3, 0, 0), (22, .iadd, 0, 0, 0), (23, .iconst 1, 0, 0, 0), (24, .iadd, 0, 0, 0), (25, .ireturn, 0, 0, 0)]
def bd_24 : List BE := [(0, .iload_n 1, 0, 0, 0), (1, .ifCond .lt 36, 37, 0, 0), (4, .iload_n 1, 0, 0, 0), (5, .aload_n 0, 0, 0, 0), (6, .getfield 12, 2, 0, 0), (9, .getfield 18, 3, 0, 0), (12, .aload_n 0, 0, 0, 0), (13, .getfield 12, 2, 0, 0), (16, .getfield 18, 3, 0, 0), (19, .imul, 0, 0, 0), (20, .aload_n 0, 0, 0, 0), (21, .getfield 12, 2, 0, 0), (24, .getfield 18, 3, 0, 0), (27, .iadd, 0, 0, 0), (28, .iconst 1, 0, 0, 0), (29, .iadd, 0, 0, 0), (30, .if_icmp .ge 7, 37, 0, 0), (33, .iconst 1, 0, 0, 0), (34, .goto 4, 38, 0, 0), (37, .iconst 0, 0, 0, 0), (38, .ireturn, 0, 0, 0)]
def bd_25 : List BE := [(0, .aload_n 0, 0, 0, 0), (1, .getfield 12, 2, 0, 0), (4, .iconst 1, 0, 0, 0), (5, .invokestatic 22, 10, 0, 0), (8, .ifCond .ne 18, 26, 0, 0), (11, .aload_n 0, 0, 0, 0), (12, .getfield 12, 2, 0, 0), (15, .iconst 0, 0, 0, 0), (16, .invokestatic 22, 10, 0, 0), (19, .ifCond .ne 7, 26, 0, 0), (22, .iconst 1, 0, 0, 0), (23, .goto 4, 27, 0, 0), (26, .iconst 0, 0, 0, 0), (27, .ireturn, 0, 0, 0)]
def bd_26 : List BE := [(0, .aload_n 0, 0, 0, 0), (1, .getfield 12, 2, 0, 0), (4, .getfield 18, 3, 0, 0), (7, .istore_n 3, 0, 0, 0), (8, .iload_n 3, 0, 0, 0), (9, .iconst 1, 0, 0, 0), (10, .if_icmp .lt 19, 29, 0, 0), (13, .aload_n 0, 0, 0, 0), (14, .iload_n 1, 0, 0, 0), (15, .invokevirtual 28, 24, 0, 0), (18, .ifCond .eq 11, 29, 0, 0), (21, .aload_n 0, 0, 0, 0), (22, .iload_n 2, 0, 0, 0), (23, .invokevirtual 28, 24, 0, 0), (26, .ifCond .ne 5, 31, 0, 0), (29, .iconst 0, 0, 0, 0), (30, .ireturn, 0, 0, 0), (31, .iload_n 3, 0, 0, 0), (32, .iload_n 3, 0, 0, 0), (33, .imul, 0, 0, 0), (34, .istore 4, 0, 0, 0), (36, .iload_n 2, 0, 0, 0), (37, .iload 4, 0, 0, 0), (39, .if_icmp .lt 27, 66, 0, 0), (42, .iload_n 1, 0, 0, 0), (43, .iload_n 3, 0, 0, 0), (44, .idiv, 0, 0, 0), (45, .iload_n 2, 0, 0, 0), (46, .iload 4, 0, 0, 0), (48, .isub, 0, 0, 0), (49, .if_icmp .eq 11, 60, 0, 0), (52, .iload_n 1, 0, 0, 0), (53, .iload 4, 0, 0, 0), (55, .iload_n 3, 0, 0, 0), (56, .iadd, 0, 0, 0), (57, .if_icmp .ne 7, 64, 0, 0), (60, .iconst 1, 0, 0, 0), (61, .goto 4, 65, 0, 0), (64, .iconst 0, 0, 0, 0), (65, .ireturn, 0, 0, 0), (66, .iload_n 2, 0, 0, 0), (67, .iload_n 3, 0, 0, 0), (68, .idiv, 0, 0, 0), (69, .istore 5, 0, 0, 0), (71, .iload_n 1, 0, 0, 0), (72, .iload 4, 0, 0, 0), (74, .if_icmp .ge 39, 113, 0, 0), (77, .iload_n 1, 0, 0, 0), (78, .iload_n 3, 0, 0, 0), (79, .irem, 0, 0, 0), (80, .aload_n 0, 0, 0, 0), (81, .getfield 12, 2, 0, 0), (84, .aload_n 0, 0, 0, 0), (85, .getfield 12, 2, 0, 0), (88, .iload_n 1, 0, 0, 0), (89, .iload_n 3, 0, 0, 0), (90, .idiv, 0, 0, 0), (91, .iload 5, 0, 0, 0), (93, .invokevirtual 32, 40, 0, 0), (96, .iload_n 2, 0, 0, 0), (97, .iload_n 3, 0, 0, 0), (98, .irem, 0, 0, 0), (99, .invokevirtual 36, 38, 0, 0), (102, .if_icmp .ne 7, 109, 0, 0), (105, .iconst 1, 0, 0, 0), (106, .goto 21, 127, 0, 0), (109, .iconst 0, 0, 0, 0), (110, .goto 17, 127, 0, 0), (113, .iload_n 1, 0, 0, 0), (114, .iload 4, 0, 0, 0), (116, .iload 5, 0, 0, 0), (118, .iadd, 0, 0, 0), (119, .if_icmp .ne 7, 126, 0, 0), (122, .iconst 1, 0, 0, 0), (123, .goto 4, 127, 0, 0), (126, .iconst 0, 0, 0, 0), (127, .ireturn, 0, 0, 0)]
def bd_27 : List BE := [(0, .aload_n 0, 0, 0, 0), (1, .getfield 12, 2, 0, 0), (4, .getfield 18, 3, 0, 0), (7, .istore_n 3, 0, 0, 0), (8, .iload_n 3, 0, 0, 0), (9, .iconst 1, 0, 0, 0), (10, .if_icmp .lt 20, 30, 0, 0), (13, .aload_n 0, 0, 0, 0), (14, .iload_n 1, 0, 0, 0), (15, .invokevirtual 28, 24, 0, 0), (18, .ifCond .eq 12, 30, 0, 0), (21, .iload_n 2, 0, 0, 0), (22, .ifCond .lt 8, 30, 0, 0), (25, .iload_n 2, 0, 0, 0), (26, .iload_n 3, 0, 0, 0), (27, .if_icmp .le 5, 32, 0, 0), (30, .iconst (-1), 0, 0, 0), (31, .ireturn, 0, 0, 0), (32, .iload_n 3, 0, 0, 0), (33, .iload_n 3, 0, 0, 0), (34, .imul, 0, 0, 0), (35, .istore 4, 0, 0, 0), (37, .iload_n 1, 0, 0, 0), (38, .iload 4, 0, 0, 0), (40, .if_icmp .lt 24, 64, 0, 0), (43, .iload_n 2, 0, 0, 0), (44, .iload_n 3, 0, 0, 0), (45, .if_icmp .ge 14, 59, 0, 0), (48, .iload_n 3, 0, 0, 0), (49, .iload_n 1, 0, 0, 0), (50, .iload 4, 0, 0, 0), (52, .isub, 0, 0, 0), (53, .imul, 0, 0, 0), (54, .iload_n 2, 0, 0, 0), (55, .iadd, 0, 0, 0), (56, .goto 7, 63, 0, 0), (59, .iload 4, 0, 0, 0), (61, .iload_n 3, 0, 0, 0), (62, .iadd, 0, 0, 0), (63, .ireturn, 0, 0, 0), (64, .iload_n 1, 0, 0, 0), (65, .iload_n 3, 0, 0, 0), (66, .idiv, 0, 0, 0), (67, .istore 5, 0, 0, 0), (69, .iload_n 2, 0, 0, 0), (70, .iload_n 3, 0, 0, 0), (71, .if_icmp .ge 30, 101, 0, 0), (74, .iload_n 3, 0, 0, 0), (75, .iload_n 2, 0, 0, 0), (76, .imul, 0, 0, 0), (77, .aload_n 0, 0, 0, 0), (78, .getfield 12, 2, 0, 0), (81, .aload_n 0, 0, 0, 0), (82, .getfield 12, 2, 0, 0), (85, .iload_n 2, 0, 0, 0), (86, .iload 5, 0, 0, 0), (88, .invokevirtual 32, 40, 0, 0), (91, .iload_n 1, 0, 0, 0), (92, .iload_n 3, 0, 0, 0), (93, .irem, 0, 0, 0), (94, .invokevirtual 36, 38, 0, 0), (97, .iadd, 0, 0, 0), (98, .goto 8, 106, 0, 0), (101, .iload 4, 0, 0, 0), (103, .iload 5, 0, 0, 0), (105, .iadd, 0, 0, 0), (106, .ireturn, 0, 0, 0)]
def bd_28 : List BE := [(0, .aload_n 0, 0, 0, 0), (1, .getfield 12, 2, 0, 0), (4, .getfield 18, 3, 0, 0), (7, .istore_n 3, 0, 0, 0), (8, .iload_n 3, 0, 0, 0), (9, .iconst 1, 0, 0, 0), (10, .if_icmp .lt 20, 30, 0, 0), (13, .aload_n 0, 0, 0, 0), (14, .iload_n 1, 0, 0, 0), (15, .invokevirtual 28, 24, 0, 0), (18, .ifCond .eq 12, 30, 0, 0), (21, .iload_n 2, 0, 0, 0), (22, .ifCond .lt 8, 30, 0, 0), (25, .iload_n 2, 0, 0, 0), (26, .iload_n 3, 0, 0, 0), (27, .if_icmp .le 5, 32, 0, 0), (30, .iconst (-1), 0, 0, 0), (31, .ireturn, 0, 0, 0), (32, .iload_n 3, 0, 0, 0), (33, .iload_n 3, 0, 0, 0), (34, .imul, 0, 0, 0), (35, .istore 4, 0, 0, 0), (37, .iload_n 1, 0, 0, 0), (38, .iload 4, 0, 0, 0), (40, .if_icmp .lt 24, 64, 0, 0), (43, .iload_n 2, 0, 0, 0), (44, .iload_n 3, 0, 0, 0), (45, .if_icmp .ge 14, 59, 0, 0), (48, .iload_n 3, 0, 0, 0), (49, .iload_n 1, 0, 0, 0), (50, .iload 4, 0, 0, 0), (52, .isub, 0, 0, 0), (53, .imul, 0, 0, 0), (54, .iload_n 2, 0, 0, 0), (55, .iadd, 0, 0, 0), (56, .goto 7, 63, 0, 0), (59, .iload 4, 0, 0, 0), (61, .iload_n 3, 0, 0, 0), (62, .iadd, 0, 0, 0), (63, .ireturn, 0, 0, 0), (64, .iload_n 1, 0, 0, 0), (65, .iload_n 3, 0, 0, 0), (66, .idiv, 0, 0, 0), (67, .istore 5, 0, 0, 0), (69, .iload_n 2, 0, 0, 0), (70, .iload_n 3, 0, 0, 0), (71, .if_icmp .ge 30, 101, 0, 0), (74, .iload_n 3, 0, 0, 0), (75, .iload_n 2, 0, 0, 0), (76, .imul, 0, 0, 0), (77, .aload_n 0, 0, 0, 0), (78, .getfield 12, 2, 0, 0), (81, .iload_n 1, 0, 0, 0), (82, .iload_n 3, 0, 0, 0), (83, .irem, 0, 0, 0), (84, .aload_n 0, 0, 0, 0), (85, .getfield 12, 2, 0, 0), (88, .iload 5, 0, 0, 0), (90, .iload_n 2, 0, 0, 0), (91, .invokevirtual 32, 40, 0, 0), (94, .invokevirtual 39, 39, 0, 0), (97, .iadd, 0, 0, 0), (98, .goto 8, 106, 0, 0), (101, .iload 4, 0, 0, 0), (103, .iload 5, 0, 0, 0), (105, .iadd, 0, 0, 0), (106, .ireturn, 0, 0, 0)]
def bd_29 : List BE := [(0, .iconst 0, 0, 0, 0), (1, .istore_n 3, 0, 0, 0), (2, .iload_n 3, 0, 0, 0), (3, .aload_n 0, 0, 0, 0), (4, .getfield 12, 2, 0, 0), (7, .getfield 18, 3, 0, 0), (10, .if_icmp .gt 30, 40, 0, 0), (13, .aload_n 0, 0, 0, 0), (14, .iload_n 1, 0, 0, 0), (15, .iload_n 3, 0, 0, 0), (16, .invokevirtual 42, 28, 0, 0), (19, .istore 4, 0, 0, 0), (21, .aload_n 0, 0, 0, 0), (22, .iload_n 2, 0, 0, 0), (23, .iload 4, 0, 0, 0), (25, .invokevirtual 45, 26, 0, 0), (28, .ifCond .eq 6, 34, 0, 0), (31, .iload 4, 0, 0, 0), (33, .ireturn, 0, 0, 0), (34, .iinc 3 1, 0, 0, 0), (37, .goto (-35), 2, 0, 0), (40, .iconst (-1), 0, 0, 0), (41, .ireturn, 0, 0, 0)]
def bd_30 : List BE := [(0, .iconst 0, 0, 0, 0), (1, .istore_n 3, 0, 0, 0), (2, .iload_n 3, 0, 0, 0), (3, .aload_n 0, 0, 0, 0), (4, .getfield 12, 2, 0, 0), (7, .getfield 18, 3, 0, 0), (10, .if_icmp .gt 30, 40, 0, 0), (13, .aload_n 0, 0, 0, 0), (14, .iload_n 1, 0, 0, 0), (15, .iload_n 3, 0, 0, 0), (16, .invokevirtual 49, 27, 0, 0), (19, .istore 4, 0, 0, 0), (21, .aload_n 0, 0, 0, 0), (22, .iload 4, 0, 0, 0), (24, .iload_n 2, 0, 0, 0), (25, .invokevirtual 45, 26, 0, 0), (28, .ifCond .eq 6, 34, 0, 0), (31, .iload 4, 0, 0, 0), (33, .ireturn, 0, 0, 0), (34, .iinc 3 1, 0, 0, 0), (37, .goto (-35), 2, 0, 0), (40, .iconst (-1), 0, 0, 0), (41, .ireturn, 0, 0, 0)]
def bd_31 : List BE := [(0, .aload_n 0, 0, 0, 0), (1, .iload_n 1, 0, 0, 0), (2, .iload_n 3, 0, 0, 0), (3, .invokevirtual 49, 27, 0, 0), (6, .istore 4, 0, 0, 0), (8, .iload 4, 0, 0, 0), (10, .iload_n 2, 0, 0, 0), (11, .if_icmp .ge 8, 19, 0, 0), (14, .iload 4, 0, 0, 0), (16, .goto 11, 27, 0, 0), (19, .aload_n 0, 0, 0, 0), (20, .iload_n 1, 0, 0, 0), (21, .iload_n 3, 0, 0, 0), (22, .iconst 1, 0, 0, 0), (23, .iadd, 0, 0, 0), (24, .invokevirtual 49, 27, 0, 0), (27, .ireturn, 0, 0, 0)]
def bd_32 : List BE := [(0, .aload_n 0, 0, 0, 0), (1, .aload_n 0, 0, 0, 0), (2, .iload_n 1, 0, 0, 0), (3, .iload_n 2, 0, 0, 0), (4, .invokevirtual 52, 29, 0, 0), (7, .aload_n 0, 0, 0, 0), (8, .iload_n 3, 0, 0, 0), (9, .iload 4, 0, 0, 0), (11, .invokevirtual 52, 29, 0, 0), (14, .invokevirtual 55, 30, 0, 0), (17, .ireturn, 0, 0, 0)]
def bd_33 : List BE := [(0, .iconst 0, 0, 0, 0), (1, .istore 4, 0, 0, 0), (3, .iload 4, 0, 0, 0), (5, .aload_n 0, 0, 0, 0), (6, .getfield 12, 2, 0, 0), (9, .getfield 18, 3, 0, 0), (12, .if_icmp .gt 40, 52, 0, 0), (15, .aload_n 0, 0, 0, 0), (16, .iload_n 1, 0, 0, 0), (17, .iload 4, 0, 0, 0), (19, .invokevirtual 42, 28, 0, 0), (22, .istore 5, 0, 0, 0), (24, .aload_n 0, 0, 0, 0), (25, .iload_n 2, 0, 0, 0), (26, .iload 5, 0, 0, 0), (28, .invokevirtual 45, 26, 0, 0), (31, .ifCond .eq 15, 46, 0, 0), (34, .aload_n 0, 0, 0, 0), (35, .iload_n 3, 0, 0, 0), (36, .iload 5, 0, 0, 0), (38, .invokevirtual 45, 26, 0, 0), (41, .ifCond .eq 5, 46, 0, 0), (44, .iconst 1, 0, 0, 0), (45, .ireturn, 0, 0, 0), (46, .iinc 4 1, 0, 0, 0), (49, .goto (-46), 3, 0, 0), (52, .iconst 0, 0, 0, 0), (53, .ireturn, 0, 0, 0)]
def bd_34 : List BE := [(0, .aload_n 0, 0, 0, 0), (1, .iload_n 1, 0, 0, 0), (2, .iload_n 2, 0, 0, 0), (3, .invokevirtual 42, 28, 0, 0), (6, .istore 7, 0, 0, 0), (8, .aload_n 0, 0, 0, 0), (9, .iload_n 1, 0, 0, 0), (10, .iload_n 3, 0, 0, 0), (11, .invokevirtual 42, 28, 0, 0), (14, .istore 8, 0, 0, 0), (16, .aload_n 0, 0, 0, 0), (17, .iload_n 1, 0, 0, 0), (18, .iload 4, 0, 0, 0), (20, .invokevirtual 42, 28, 0, 0), (23, .istore 9, 0, 0, 0), (25, .aload_n 0, 0, 0, 0), (26, .iload 7, 0, 0, 0), (28, .iload_n 1, 0, 0, 0), (29, .iload 5, 0, 0, 0), (31, .invokevirtual 58, 31, 0, 0), (34, .istore 10, 0, 0, 0), (36, .aload_n 0, 0, 0, 0), (37, .iload 8, 0, 0, 0), (39, .iload_n 1, 0, 0, 0), (40, .iload 5, 0, 0, 0), (42, .invokevirtual 58, 31, 0, 0), (45, .istore 11, 0, 0, 0), (47, .aload_n 0, 0, 0, 0), (48, .iload 9, 0, 0, 0), (50, .iload_n 1, 0, 0, 0), (51, .iload 5, 0, 0, 0), (53, .invokevirtual 58, 31, 0, 0), (56, .istore 12, 0, 0, 0), (58, .aload_n 0, 0, 0, 0), (59, .iload 7, 0, 0, 0), (61, .iload_n 1, 0, 0, 0), (62, .iload 6, 0, 0, 0), (64, .invokevirtual 58, 31, 0, 0), (67, .istore 13, 0, 0, 0), (69, .aload_n 0, 0, 0, 0), (70, .iload 8, 0, 0, 0), (72, .iload_n 1, 0, 0, 0), (73, .iload 6, 0, 0, 0), (75, .invokevirtual 58, 31, 0, 0), (78, .istore 14, 0, 0, 0), (80, .aload_n 0, 0, 0, 0), (81, .iload 9, 0, 0, 0), (83, .iload_n 1, 0, 0, 0), (84, .iload 6, 0, 0, 0), (86, .invokevirtual 58, 31, 0, 0), (89, .istore 15, 0, 0, 0), (91, .aload_n 0, 0, 0, 0), (92, .iload 10, 0, 0, 0), (94, .iload 11, 0, 0, 0), (96, .iload 12, 0, 0, 0), (98, .invokevirtual 62, 33, 0, 0), (101, .ifCond .ne 16, 117, 0, 0), (104, .aload_n 0, 0, 0, 0), (105, .iload 13, 0, 0, 0), (107, .iload 14, 0, 0, 0), (109, .iload 15, 0, 0, 0), (111, .invokevirtual 62, 33, 0, 0), (114, .ifCond .eq 6, 120, 0, 0), (117, .ldc 66, 0, 0, (-1000002)), (119, .ireturn, 0, 0, 0), (120, .aload_n 0, 0, 0, 0), (121, .aload_n 0, 0, 0, 0), (122, .iload 10, 0, 0, 0), (124, .iload 11, 0, 0, 0), (126, .iload 13, 0, 0, 0), (128, .iload 14, 0, 0, 0), (130, .invokevirtual 67, 32, 0, 0), (133, .aload_n 0, 0, 0, 0), (134, .iload 10, 0, 0, 0), (136, .iload 12, 0, 0, 0), (138, .iload 13, 0, 0, 0), (140, .iload 15, 0, 0, 0), (142, .invokevirtual 67, 32, 0, 0), (145, .aload_n 0, 0, 0, 0), (146, .iload 11, 0, 0, 0), (148, .iload 12, 0, 0, 0), (150, .iload 14, 0, 0, 0), (152, .iload 15, 0, 0, 0), (154, .invokevirtual 67, 32, 0, 0), (157, .invokevirtual 62, 33, 0, 0), (160, .ifCond .eq 7, 167, 0, 0), (163, .iconst 1, 0, 0, 0), (164, .goto 4, 168, 0, 0), (167, .iconst 0, 0, 0, 0), (168, .ireturn, 0, 0, 0)]
def bd_35 : List BE := [(0, .aload_n 0, 0, 0, 0), (1, .iload_n 1, 0, 0, 0), (2, .iload_n 2, 0, 0, 0), (3, .invokevirtual 55, 30, 0, 0), (6, .istore_n 3, 0, 0, 0), (7, .aload_n 0, 0, 0, 0), (8, .iload_n 1, 0, 0, 0), (9, .iload_n 3, 0, 0, 0), (10, .iconst 0, 0, 0, 0), (11, .invokevirtual 58, 31, 0, 0), (14, .istore 4, 0, 0, 0), (16, .aload_n 0, 0, 0, 0), (17, .iload_n 1, 0, 0, 0), (18, .iload_n 3, 0, 0, 0), (19, .iconst 1, 0, 0, 0), (20, .invokevirtual 58, 31, 0, 0), (23, .istore 5, 0, 0, 0), (25, .aload_n 0, 0, 0, 0), (26, .iload_n 1, 0, 0, 0), (27, .iload_n 3, 0, 0, 0), (28, .iconst 2, 0, 0, 0), (29, .invokevirtual 58, 31, 0, 0), (32, .istore 6, 0, 0, 0), (34, .aload_n 0, 0, 0, 0), (35, .iload_n 2, 0, 0, 0), (36, .iload_n 3, 0, 0, 0), (37, .iconst 0, 0, 0, 0), (38, .invokevirtual 58, 31, 0, 0), (41, .istore 7, 0, 0, 0), (43, .aload_n 0, 0, 0, 0), (44, .iload_n 2, 0, 0, 0), (45, .iload_n 3, 0, 0, 0), (46, .iconst 1, 0, 0, 0), (47, .invokevirtual 58, 31, 0, 0), (50, .istore 8, 0, 0, 0), (52, .aload_n 0, 0, 0, 0), (53, .iload_n 2, 0, 0, 0), (54, .iload_n 3, 0, 0, 0), (55, .iconst 2, 0, 0, 0), (56, .invokevirtual 58, 31, 0, 0), (59, .istore 9, 0, 0, 0), (61, .aload_n 0, 0, 0, 0), (62, .aload_n 0, 0, 0, 0), (63, .iload 4, 0, 0, 0), (65, .iload 8, 0, 0, 0), (67, .iload 5, 0, 0, 0), (69, .iload 7, 0, 0, 0), (71, .invokevirtual 67, 32, 0, 0), (74, .aload_n 0, 0, 0, 0), (75, .iload 4, 0, 0, 0), (77, .iload 9, 0, 0, 0), (79, .iload 6, 0, 0, 0), (81, .iload 7, 0, 0, 0), (83, .invokevirtual 67, 32, 0, 0), (86, .aload_n 0, 0, 0, 0), (87, .iload 5, 0, 0, 0), (89, .iload 9, 0, 0, 0), (91, .iload 6, 0, 0, 0), (93, .iload 8, 0, 0, 0), (95, .invokevirtual 67, 32, 0, 0), (98, .invokevirtual 62, 33, 0, 0), (101, .ireturn, 0, 0, 0)]
def bd_36 : List BE := [(0, .aload_n 0, 0, 0, 0), (1, .invokespecial 3, 1000, 0, 0), (4, .aload_n 0, 0, 0, 0), (5, .bipush 81, 0, 0, 81), (7, .newarray .int, 0, 0, 0), (9, .putfield 9, 3, 1, 1), (12, .aload_n 0, 0, 0, 0), (13, .iconst 3, 0, 0, 0), (14, .invokevirtual 15, 44, 0, 0), (17, .return_, 0, 0, 0)]
def bd_37 : List BE := [(0, .iload_n 1, 0, 0, 0), (1, .ifCond .lt 15, 16, 0, 0), (4, .iload_n 1, 0, 0, 0), (5, .aload_n 0, 0, 0, 0), (6, .getfield 19, 3, 0, 0), (9, .if_icmp .ge 7, 16, 0, 0), (12, .iconst 1, 0, 0, 0), (13, .goto 4, 17, 0, 0), (16, .iconst 0, 0, 0, 0), (17, .ireturn, 0, 0, 0)]
def bd_38 : List BE := [(0, .aload_n 0, 0, 0, 0), (1, .getfield 19, 3, 0, 0), (4, .iconst 4, 0, 0, 0), (5, .if_icmp .ne 7, 12, 0, 0), (8, .iload_n 1, 0, 0, 0), (9, .iload_n 2, 0, 0, 0), (10, .ixor, 0, 0, 0), (11, .ireturn, 0, 0, 0), (12, .aload_n 0, 0, 0, 0), (13, .getfield 19, 3, 0, 0), (16, .bipush 9, 0, 0, 9), (18, .if_icmp .ne 25, 43, 0, 0), (21, .iconst 3, 0, 0, 0), (22, .iload_n 1, 0, 0, 0), (23, .iconst 3, 0, 0, 0), (24, .idiv, 0, 0, 0), (25, .iload_n 2, 0, 0, 0), (26, .iconst 3, 0, 0, 0), (27, .idiv, 0, 0, 0), (28, .iadd, 0, 0, 0), (29, .iconst 3, 0, 0, 0), (30, .irem, 0, 0, 0), (31, .imul, 0, 0, 0), (32, .iload_n 1, 0, 0, 0), (33, .iconst 3, 0, 0, 0), (34, .irem, 0, 0, 0), (35, .iload_n 2, 0, 0, 0), (36, .iconst 3, 0, 0, 0), (37, .irem, 0, 0, 0), (38, .iadd, 0, 0, 0), (39, .iconst 3, 0, 0, 0), (40, .irem, 0, 0, 0), (41, .iadd, 0, 0, 0), (42, .ireturn, 0, 0, 0), (43, .iload_n 1, 0, 0, 0), (44, .iload_n 2, 0, 0, 0), (45, .iadd, 0, 0, 0), (46, .aload_n 0, 0, 0, 0), (47, .getfield 19, 3, 0, 0), (50, .if_icmp .ge 9, 59, 0, 0), (53, .iload_n 1, 0, 0, 0), (54, .iload_n 2, 0, 0, 0), (55, .iadd, 0, 0, 0), (56, .goto 11, 67, 0, 0), (59, .iload_n 1, 0, 0, 0), (60, .iload_n 2, 0, 0, 0), (61, .iadd, 0, 0, 0), (62, .aload_n 0, 0, 0, 0), (63, .getfield 19, 3, 0, 0), (66, .isub, 0, 0, 0), (67, .ireturn, 0, 0, 0)]
def bd_39 : List BE := [(0, .aload_n 0, 0, 0, 0), (1, .getfield 19, 3, 0, 0), (4, .iconst 4, 0, 0, 0), (5, .if_icmp .ne 7, 12, 0, 0), (8, .iload_n 1, 0, 0, 0), (9, .iload_n 2, 0, 0, 0), (10, .ixor, 0, 0, 0), (11, .ireturn, 0, 0, 0), (12, .aload_n 0, 0, 0, 0), (13, .getfield 19, 3, 0, 0), (16, .bipush 9, 0, 0, 9), (18, .if_icmp .ne 29, 47, 0, 0), (21, .iconst 3, 0, 0, 0), (22, .iload_n 1, 0, 0, 0), (23, .iconst 3, 0, 0, 0), (24, .idiv, 0, 0, 0), (25, .iload_n 2, 0, 0, 0), (26, .iconst 3, 0, 0, 0), (27, .idiv, 0, 0, 0), (28, .isub, 0, 0, 0), (29, .iconst 3, 0, 0, 0), (30, .iadd, 0, 0, 0), (31, .iconst 3, 0, 0, 0), (32, .irem, 0, 0, 0), (33, .imul, 0, 0, 0), (34, .iload_n 1, 0, 0, 0), (35, .iconst 3, 0, 0, 0), (36, .irem, 0, 0, 0), (37, .iload_n 2, 0, 0, 0), (38, .iconst 3, 0, 0, 0), (39, .irem, 0, 0, 0), (40, .isub, 0, 0, 0), (41, .iconst 3, 0, 0, 0), (42, .iadd, 0, 0, 0), (43, .iconst 3, 0, 0, 0), (44, .irem, 0, 0, 0), (45, .iadd, 0, 0, 0), (46, .ireturn, 0, 0, 0), (47, .iload_n 1, 0, 0, 0), (48, .iload_n 2, 0, 0, 0), (49, .if_icmp .ge 14, 63, 0, 0), (52, .iload_n 1, 0, 0, 0), (53, .iload_n 2, 0, 0, 0), (54, .isub, 0, 0, 0), (55, .aload_n 0, 0, 0, 0), (56, .getfield 19, 3, 0, 0), (59, .iadd, 0, 0, 0), (60, .goto 6, 66, 0, 0), (63, .iload_n 1, 0, 0, 0), (64, .iload_n 2, 0, 0, 0), (65, .isub, 0, 0, 0), (66, .ireturn, 0, 0, 0)]
def bd_40 : List BE := [(0, .bipush 9, 0, 0, 9), (2, .iload_n 1, 0, 0, 0), (3, .imul, 0, 0, 0), (4, .iload_n 2, 0, 0, 0), (5, .iadd, 0, 0, 0), (6, .istore_n 3, 0, 0, 0), (7, .iload_n 3, 0, 0, 0), (8, .ifCond .lt 21, 29, 0, 0), (11, .iload_n 3, 0, 0, 0), (12, .aload_n 0, 0, 0, 0), (13, .getfield 9, 3, 1, 0), (16, .arraylength, 0, 0, 0), (17, .if_icmp .ge 12, 29, 0, 0), (20, .aload_n 0, 0, 0, 0), (21, .getfield 9, 3, 1, 0), (24, .iload_n 3, 0, 0, 0), (25, .iaload, 0, 0, 0), (26, .goto 4, 30, 0, 0), (29, .iconst 0, 0, 0, 0), (30, .ireturn, 0, 0, 0)]
def bd_41 : List BE := [(0, .iload_n 3, 0, 0, 0), (1, .ifCond .eq 12, 13, 0, 0), (4, .aload_n 0, 0, 0, 0), (5, .iload_n 1, 0, 0, 0), (6, .iload_n 2, 0, 0, 0), (7, .invokevirtual 23, 40, 0, 0), (10, .goto 9, 19, 0, 0), (13, .aload_n 0, 0, 0, 0), (14, .iload_n 2, 0, 0, 0), (15, .iload_n 1, 0, 0, 0), (16, .invokevirtual 23, 40, 0, 0), (19, .ireturn, 0, 0, 0)]
def bd_42 : List BE := [(0, .iconst 0, 0, 0, 0), (1, .istore 4, 0, 0, 0), (3, .iload 4, 0, 0, 0), (5, .aload_n 0, 0, 0, 0), (6, .getfield 19, 3, 0, 0), (9, .if_icmp .ge 24, 33, 0, 0), (12, .aload_n 0, 0, 0, 0), (13, .iload_n 1, 0, 0, 0), (14, .iload 4, 0, 0, 0), (16, .iload_n 3, 0, 0, 0), (17, .invokevirtual 27, 41, 0, 0), (20, .iload_n 2, 0, 0, 0), (21, .if_icmp .ne 6, 27, 0, 0), (24, .iload 4, 0, 0, 0), (26, .ireturn, 0, 0, 0), (27, .iinc 4 1, 0, 0, 0), (30, .goto (-27), 3, 0, 0), (33, .iconst (-1), 0, 0, 0), (34, .ireturn, 0, 0, 0)]
def bd_43 : List BE := [(0, .bipush 9, 0, 0, 9), (2, .iload_n 1, 0, 0, 0), (3, .imul, 0, 0, 0), (4, .iload_n 2, 0, 0, 0), (5, .iadd, 0, 0, 0), (6, .istore 4, 0, 0, 0), (8, .iload 4, 0, 0, 0), (10, .ifCond .lt 24, 34, 0, 0), (13, .iload 4, 0, 0, 0), (15, .aload_n 0, 0, 0, 0), (16, .getfield 9, 3, 1, 0), (19, .arraylength, 0, 0, 0), (20, .if_icmp .ge 14, 34, 0, 0), (23, .aload_n 0, 0, 0, 0), (24, .getfield 9, 3, 1, 0), (27, .iload 4, 0, 0, 0), (29, .iaload, 0, 0, 0), (30, .iload_n 3, 0, 0, 0), (31, .if_icmp .ne 5, 36, 0, 0), (34, .iconst 0, 0, 0, 0), (35, .ireturn, 0, 0, 0), (36, .aload_n 0, 0, 0, 0), (37, .getfield 9, 3, 1, 0), (40, .iload 4, 0, 0, 0), (42, .iload_n 3, 0, 0, 0), (43, .iastore, 0, 0, 0), (44, .iconst 1, 0, 0, 0), (45, .ireturn, 0, 0, 0)]
def bd_44 : List BE := [(0, .aload_n 0, 0, 0, 0), (1, .iload_n 1, 0, 0, 0), (2, .putfield 19, 3, 0, 0), (5, .iconst 0, 0, 0, 0), (6, .istore_n 2, 0, 0, 0), (7, .iload_n 2, 0, 0, 0), (8, .iload_n 1, 0, 0, 0), (9, .if_icmp .ge 35, 44, 0, 0), (12, .iconst 0, 0, 0, 0), (13, .istore_n 3, 0, 0, 0), (14, .iload_n 3, 0, 0, 0), (15, .iload_n 1, 0, 0, 0), (16, .if_icmp .ge 22, 38, 0, 0), (19, .aload_n 0, 0, 0, 0), (20, .iload_n 2, 0, 0, 0), (21, .iload_n 3, 0, 0, 0), (22, .iload_n 1, 0, 0, 0), (23, .iload_n 2, 0, 0, 0), (24, .iload_n 3, 0, 0, 0), (25, .invokestatic 31, 50, 0, 0), (28, .invokevirtual 35, 43, 0, 0), (31, .pop, 0, 0, 0), (32, .iinc 3 1, 0, 0, 0), (35, .goto (-21), 14, 0, 0), (38, .iinc 2 1, 0, 0, 0), (41, .goto (-34), 7, 0, 0), (44, .return_, 0, 0, 0)]
def bd_45 : List BE := [(0, .iconst 0, 0, 0, 0), (1, .istore_n 1, 0, 0, 0), (2, .iconst 0, 0, 0, 0), (3, .istore_n 2, 0, 0, 0), (4, .iload_n 2, 0, 0, 0), (5, .aload_n 0, 0, 0, 0), (6, .getfield 19, 3, 0, 0), (9, .if_icmp .ge 84, 93, 0, 0), (12, .aload_n 0, 0, 0, 0), (13, .iload_n 2, 0, 0, 0), (14, .invokevirtual 38, 49, 0, 0), (17, .istore_n 3, 0, 0, 0), (18, .iconst 0, 0, 0, 0), (19, .istore 4, 0, 0, 0), (21, .iload 4, 0, 0, 0), (23, .aload_n 0, 0, 0, 0), (24, .getfield 19, 3, 0, 0), (27, .if_icmp .ge 60, 87, 0, 0), (30, .aload_n 0, 0, 0, 0), (31, .getfield 19, 3, 0, 0), (34, .aload_n 0, 0, 0, 0), (35, .getfield 19, 3, 0, 0), (38, .iload 4, 0, 0, 0), (40, .iload 4, 0, 0, 0), (42, .invokestatic 31, 50, 0, 0), (45, .iload 4, 0, 0, 0), (47, .invokestatic 31, 50, 0, 0), (50, .istore 5, 0, 0, 0), (52, .iload_n 1, 0, 0, 0), (53, .aload_n 0, 0, 0, 0), (54, .iload 4, 0, 0, 0), (56, .iload_n 2, 0, 0, 0), (57, .aload_n 0, 0, 0, 0), (58, .getfield 19, 3, 0, 0), (61, .iload_n 3, 0, 0, 0), (62, .ifCond .eq 8, 70, 0, 0), (65, .iload 4, 0, 0, 0), (67, .goto 5, 72, 0, 0), (70, .iload 5, 0, 0, 0), (72, .iload_n 2, 0, 0, 0), (73, .invokestatic 31, 50, 0, 0), (76, .invokevirtual 35, 43, 0, 0), (79, .iadd, 0, 0, 0), (80, .istore_n 1, 0, 0, 0), (81, .iinc 4 1, 0, 0, 0), (84, .goto (-63), 21, 0, 0), (87, .iinc 2 1, 0, 0, 0), (90, .goto (-86), 4, 0, 0), (93, .iload_n 1, 0, 0, 0), (94, .ireturn, 0, 0, 0)]
def bd_46 : List BE := [(0, .iconst 0, 0, 0, 0), (1, .istore_n 1, 0, 0, 0), (2, .iconst 1, 0, 0, 0), (3, .istore_n 2, 0, 0, 0), (4, .iload_n 2, 0, 0, 0), (5, .aload_n 0, 0, 0, 0), (6, .getfield 19, 3, 0, 0), (9, .if_icmp .ge 56, 65, 0, 0), (12, .iconst 0, 0, 0, 0), (13, .istore_n 3, 0, 0, 0), (14, .iload_n 3, 0, 0, 0), (15, .iload_n 2, 0, 0, 0), (16, .if_icmp .ge 43, 59, 0, 0), (19, .aload_n 0, 0, 0, 0), (20, .iload_n 2, 0, 0, 0), (21, .iload_n 3, 0, 0, 0), (22, .invokevirtual 23, 40, 0, 0), (25, .istore 4, 0, 0, 0), (27, .iload_n 1, 0, 0, 0), (28, .aload_n 0, 0, 0, 0), (29, .iload_n 2, 0, 0, 0), (30, .iload_n 3, 0, 0, 0), (31, .aload_n 0, 0, 0, 0), (32, .iload_n 3, 0, 0, 0), (33, .iload_n 2, 0, 0, 0), (34, .invokevirtual 23, 40, 0, 0), (37, .invokevirtual 35, 43, 0, 0), (40, .iadd, 0, 0, 0), (41, .istore_n 1, 0, 0, 0), (42, .iload_n 1, 0, 0, 0), (43, .aload_n 0, 0, 0, 0), (44, .iload_n 3, 0, 0, 0), (45, .iload_n 2, 0, 0, 0), (46, .iload 4, 0, 0, 0), (48, .invokevirtual 35, 43, 0, 0), (51, .iadd, 0, 0, 0), (52, .istore_n 1, 0, 0, 0), (53, .iinc 3 1, 0, 0, 0), (56, .goto (-42), 14, 0, 0), (59, .iinc 2 1, 0, 0, 0), (62, .goto (-58), 4, 0, 0), (65, .iload_n 1, 0, 0, 0), (66, .ireturn, 0, 0, 0)]
def bd_47 : List BE := [(0, .iconst 0, 0, 0, 0), (1, .istore_n 1, 0, 0, 0), (2, .iconst 0, 0, 0, 0), (3, .istore_n 2, 0, 0, 0), (4, .iload_n 2, 0, 0, 0), (5, .aload_n 0, 0, 0, 0), (6, .getfield 19, 3, 0, 0), (9, .if_icmp .ge 46, 55, 0, 0), (12, .iconst 0, 0, 0, 0), (13, .istore_n 3, 0, 0, 0), (14, .iload_n 3, 0, 0, 0), (15, .aload_n 0, 0, 0, 0), (16, .getfield 19, 3, 0, 0), (19, .if_icmp .ge 30, 49, 0, 0), (22, .aload_n 0, 0, 0, 0), (23, .iload_n 2, 0, 0, 0), (24, .iload_n 3, 0, 0, 0), (25, .invokevirtual 23, 40, 0, 0), (28, .aload_n 0, 0, 0, 0), (29, .getfield 19, 3, 0, 0), (32, .iload_n 2, 0, 0, 0), (33, .iload_n 3, 0, 0, 0), (34, .invokestatic 31, 50, 0, 0), (37, .if_icmp .eq 6, 43, 0, 0), (40, .iinc 1 1, 0, 0, 0), (43, .iinc 3 1, 0, 0, 0), (46, .goto (-32), 14, 0, 0), (49, .iinc 2 1, 0, 0, 0), (52, .goto (-48), 4, 0, 0), (55, .iload_n 1, 0, 0, 0), (56, .ireturn, 0, 0, 0)]
def bd_48 : List BE := [(0, .iconst 0, 0, 0, 0), (1, .istore_n 1, 0, 0, 0), (2, .iconst 0, 0, 0, 0), (3, .istore_n 2, 0, 0, 0), (4, .iload_n 2, 0, 0, 0), (5, .aload_n 0, 0, 0, 0), (6, .getfield 19, 3, 0, 0), (9, .if_icmp .ge 37, 46, 0, 0), (12, .iconst 0, 0, 0, 0), (13, .istore_n 3, 0, 0, 0), (14, .iload_n 3, 0, 0, 0), (15, .aload_n 0, 0, 0, 0), (16, .getfield 19, 3, 0, 0), (19, .if_icmp .ge 21, 40, 0, 0), (22, .aload_n 0, 0, 0, 0), (23, .iload_n 2, 0, 0, 0), (24, .iload_n 3, 0, 0, 0), (25, .invokevirtual 23, 40, 0, 0), (28, .ifCond .ne 6, 34, 0, 0), (31, .iinc 1 1, 0, 0, 0), (34, .iinc 3 1, 0, 0, 0), (37, .goto (-23), 14, 0, 0), (40, .iinc 2 1, 0, 0, 0), (43, .goto (-39), 4, 0, 0), (46, .iload_n 1, 0, 0, 0), (47, .ireturn, 0, 0, 0)]
def bd_49 : List BE := [(0, .iconst 0, 0, 0, 0), (1, .istore_n 2, 0, 0, 0), (2, .iload_n 2, 0, 0, 0), (3, .aload_n 0, 0, 0, 0), (4, .getfield 19, 3, 0, 0), (7, .if_icmp .ge 24, 31, 0, 0), (10, .aload_n 0, 0, 0, 0), (11, .getfield 19, 3, 0, 0), (14, .iload_n 2, 0, 0, 0), (15, .iload_n 2, 0, 0, 0), (16, .invokestatic 31, 50, 0, 0), (19, .iload_n 1, 0, 0, 0), (20, .if_icmp .ne 5, 25, 0, 0), (23, .iconst 1, 0, 0, 0), (24, .ireturn, 0, 0, 0), (25, .iinc 2 1, 0, 0, 0), (28, .goto (-26), 2, 0, 0), (31, .iconst 0, 0, 0, 0), (32, .ireturn, 0, 0, 0)]
def bd_50 : List BE := [(0, .iload_n 0, 0, 0, 0), (1, .iconst 4, 0, 0, 0), (2, .if_icmp .ne 25, 27, 0, 0), (5, .iload_n 1, 0, 0, 0), (6, .ifCond .eq 7, 13, 0, 0), (9, .iload_n 2, 0, 0, 0), (10, .ifCond .ne 7, 17, 0, 0), (13, .iconst 0, 0, 0, 0), (14, .goto 12, 26, 0, 0), (17, .iconst 1, 0, 0, 0), (18, .iload_n 1, 0, 0, 0), (19, .iload_n 2, 0, 0, 0), (20, .iadd, 0, 0, 0), (21, .iconst 2, 0, 0, 0), (22, .isub, 0, 0, 0), (23, .iconst 3, 0, 0, 0), (24, .irem, 0, 0, 0), (25, .iadd, 0, 0, 0), (26, .ireturn, 0, 0, 0), (27, .iload_n 0, 0, 0, 0), (28, .bipush 9, 0, 0, 9), (30, .if_icmp .ne 53, 83, 0, 0), (33, .iload_n 1, 0, 0, 0), (34, .iconst 3, 0, 0, 0), (35, .idiv, 0, 0, 0), (36, .istore_n 3, 0, 0, 0), (37, .iload_n 1, 0, 0, 0), (38, .iconst 3, 0, 0, 0), (39, .irem, 0, 0, 0), (40, .istore 4, 0, 0, 0), (42, .iload_n 2, 0, 0, 0), (43, .iconst 3, 0, 0, 0), (44, .idiv, 0, 0, 0), (45, .istore 5, 0, 0, 0), (47, .iload_n 2, 0, 0, 0), (48, .iconst 3, 0, 0, 0), (49, .irem, 0, 0, 0), (50, .istore 6, 0, 0, 0), (52, .iconst 3, 0, 0, 0), (53, .iload_n 3, 0, 0, 0), (54, .iload 6, 0, 0, 0), (56, .imul, 0, 0, 0), (57, .iload 4, 0, 0, 0), (59, .iload 5, 0, 0, 0), (61, .imul, 0, 0, 0), (62, .iadd, 0, 0, 0), (63, .iconst 3, 0, 0, 0), (64, .irem, 0, 0, 0), (65, .imul, 0, 0, 0), (66, .iload 4, 0, 0, 0), (68, .iload 6, 0, 0, 0), (70, .imul, 0, 0, 0), (71, .iload_n 3, 0, 0, 0), (72, .iload 5, 0, 0, 0), (74, .imul, 0, 0, 0), (75, .isub, 0, 0, 0), (76, .bipush 6, 0, 0, 6), (78, .iadd, 0, 0, 0), (79, .iconst 3, 0, 0, 0), (80, .irem, 0, 0, 0), (81, .iadd, 0, 0, 0), (82, .ireturn, 0, 0, 0), (83, .iload_n 0, 0, 0, 0), (84, .ifCond .le 11, 95, 0, 0), (87, .iload_n 1, 0, 0, 0), (88, .iload_n 2, 0, 0, 0), (89, .imul, 0, 0, 0), (90, .iload_n 0, 0, 0, 0), (91, .irem, 0, 0, 0), (92, .goto 4, 96, 0, 0), (95, .iconst 0, 0, 0, 0), (96, .ireturn, 0, 0, 0)]
def bd_51 : List BE := [(0, .aload_n 0, 0, 0, 0), (1, .invokespecial 3, 1000, 0, 0), (4, .aload_n 0, 0, 0, 0), (5, .bipush 60, 0, 0, 60), (7, .newarray .char, 1, 0, 0), (9, .putfield 9, 4, 0, 1), (12, .return_, 0, 0, 0)]
def bd_52 : List BE := [(0, .aload_n 0, 0, 0, 0), (1, .getfield 15, 4, 1, 0), (4, .ifCond .lt 15, 19, 0, 0), (7, .aload_n 0, 0, 0, 0), (8, .getfield 15, 4, 1, 0), (11, .aload_n 0, 0, 0, 0), (12, .getfield 9, 4, 0, 0), (15, .arraylength, 0, 0, 0), (16, .if_icmp .lt 5, 21, 0, 0), (19, .iconst 0, 0, 0, 0), (20, .ireturn, 0, 0, 0), (21, .aload_n 0, 0, 0, 0), (22, .getfield 9, 4, 0, 0), (25, .aload_n 0, 0, 0, 0), (26, .getfield 15, 4, 1, 0), (29, .iload_n 1, 0, 0, 0), (30, .castore, 0, 0, 0), (31, .aload_n 0, 0, 0, 0), (32, .dup, 0, 0, 0), (33, .getfield 15, 4, 1, 0), (36, .iconst 1, 0, 0, 0), (37, .iadd, 0, 0, 0), (38, .putfield 15, 4, 1, 0), (41, .iconst 1, 0, 0, 0), (42, .ireturn, 0, 0, 0)]
def bd_53 : List BE := [(0, .iconst 0, 0, 0, 0), (1, .istore_n 2, 0, 0, 0), (2, .iload_n 2, 0, 0, 0), (3, .aload_n 0, 0, 0, 0), (4, .getfield 15, 4, 1, 0), (7, .if_icmp .ge 20, 27, 0, 0), (10, .aload_n 0, 0, 0, 0), (11, .iload_n 2, 0, 0, 0), (12, .aload_n 1, 0, 0, 0), (13, .invokevirtual 19, 54, 0, 0), (16, .ifCond .eq 5, 21, 0, 0), (19, .iload_n 2, 0, 0, 0), (20, .ireturn, 0, 0, 0), (21, .iinc 2 6, 0, 0, 0), (24, .goto (-22), 2, 0, 0), (27, .iconst (-1), 0, 0, 0), (28, .ireturn, 0, 0, 0)]
def bd_54 : List BE := [(0, .aload_n 0, 0, 0, 0), (1, .iload_n 1, 0, 0, 0), (2, .invokevirtual 23, 56, 0, 0), (5, .istore_n 3, 0, 0, 0), (6, .aload_n 0, 0, 0, 0), (7, .iload_n 1, 0, 0, 0), (8, .iconst 2, 0, 0, 0), (9, .iadd, 0, 0, 0), (10, .invokevirtual 23, 56, 0, 0), (13, .istore 4, 0, 0, 0), (15, .aload_n 0, 0, 0, 0), (16, .iload_n 1, 0, 0, 0), (17, .iconst 4, 0, 0, 0), (18, .iadd, 0, 0, 0), (19, .invokevirtual 23, 56, 0, 0), (22, .istore 5, 0, 0, 0), (24, .iload_n 3, 0, 0, 0), (25, .iconst (-1), 0, 0, 0), (26, .if_icmp .eq 19, 45, 0, 0), (29, .iload 4, 0, 0, 0), (31, .iconst (-1), 0, 0, 0), (32, .if_icmp .eq 13, 45, 0, 0), (35, .iload 5, 0, 0, 0), (37, .iconst (-1), 0, 0, 0), (38, .if_icmp .eq 7, 45, 0, 0), (41, .iconst 1, 0, 0, 0), (42, .goto 4, 46, 0, 0), (45, .iconst 0, 0, 0, 0), (46, .istore 6, 0, 0, 0), (48, .iload 6, 0, 0, 0), (50, .ifCond .eq 39, 89, 0, 0), (53, .aload_n 0, 0, 0, 0), (54, .iload_n 1, 0, 0, 0), (55, .iconst 1, 0, 0, 0), (56, .iadd, 0, 0, 0), (57, .invokevirtual 27, 57, 0, 0), (60, .bipush 42, 0, 0, 42), (62, .if_icmp .ne 27, 89, 0, 0), (65, .aload_n 0, 0, 0, 0), (66, .iload_n 1, 0, 0, 0), (67, .iconst 3, 0, 0, 0), (68, .iadd, 0, 0, 0), (69, .invokevirtual 27, 57, 0, 0), (72, .bipush 61, 0, 0, 61), (74, .if_icmp .ne 15, 89, 0, 0), (77, .aload_n 0, 0, 0, 0), (78, .iload_n 1, 0, 0, 0), (79, .iconst 5, 0, 0, 0), (80, .iadd, 0, 0, 0), (81, .invokevirtual 27, 57, 0, 0), (84, .bipush 59, 0, 0, 59), (86, .if_icmp .eq 5, 91, 0, 0), (89, .iconst 1, 0, 0, 0), (90, .ireturn, 0, 0, 0), (91, .aload_n 2, 0, 0, 0), (92, .iload_n 3, 0, 0, 0), (93, .invokevirtual 30, 37, 0, 0), (96, .ifCond .eq 25, 121, 0, 0), (99, .aload_n 2, 0, 0, 0), (100, .iload 4, 0, 0, 0), (102, .invokevirtual 30, 37, 0, 0), (105, .ifCond .eq 16, 121, 0, 0), (108, .aload_n 2, 0, 0, 0), (109, .iload 5, 0, 0, 0), (111, .invokevirtual 30, 37, 0, 0), (114, .ifCond .eq 7, 121, 0, 0), (117, .iconst 0, 0, 0, 0), (118, .goto 4, 122, 0, 0), (121, .iconst 2, 0, 0, 0), (122, .ireturn, 0, 0, 0)]
def bd_55 : List BE := [(0, .iconst 0, 0, 0, 0), (1, .istore_n 2, 0, 0, 0), (2, .iconst 0, 0, 0, 0), (3, .istore_n 3, 0, 0, 0), (4, .iload_n 3, 0, 0, 0), (5, .aload_n 0, 0, 0, 0), (6, .getfield 15, 4, 1, 0), (9, .if_icmp .ge 36, 45, 0, 0), (12, .aload_n 1, 0, 0, 0), (13, .aload_n 0, 0, 0, 0), (14, .iload_n 3, 0, 0, 0), (15, .invokevirtual 23, 56, 0, 0), (18, .aload_n 0, 0, 0, 0), (19, .iload_n 3, 0, 0, 0), (20, .iconst 2, 0, 0, 0), (21, .iadd, 0, 0, 0), (22, .invokevirtual 23, 56, 0, 0), (25, .aload_n 0, 0, 0, 0), (26, .iload_n 3, 0, 0, 0), (27, .iconst 4, 0, 0, 0), (28, .iadd, 0, 0, 0), (29, .invokevirtual 23, 56, 0, 0), (32, .invokevirtual 36, 43, 0, 0), (35, .pop, 0, 0, 0), (36, .iinc 2 1, 0, 0, 0), (39, .iinc 3 6, 0, 0, 0), (42, .goto (-38), 4, 0, 0), (45, .iload_n 2, 0, 0, 0), (46, .ireturn, 0, 0, 0)]
def bd_56 : List BE := [(0, .aload_n 0, 0, 0, 0), (1, .iload_n 1, 0, 0, 0), (2, .invokevirtual 27, 57, 0, 0), (5, .istore_n 2, 0, 0, 0), (6, .iload_n 2, 0, 0, 0), (7, .bipush 48, 0, 0, 48), (9, .if_icmp .lt 16, 25, 0, 0), (12, .iload_n 2, 0, 0, 0), (13, .bipush 57, 0, 0, 57), (15, .if_icmp .gt 10, 25, 0, 0), (18, .iload_n 2, 0, 0, 0), (19, .bipush 48, 0, 0, 48), (21, .isub, 0, 0, 0), (22, .goto 4, 26, 0, 0), (25, .iconst (-1), 0, 0, 0), (26, .ireturn, 0, 0, 0)]
def bd_57 : List BE := [(0, .iload_n 1, 0, 0, 0), (1, .ifCond .lt 29, 30, 0, 0), (4, .iload_n 1, 0, 0, 0), (5, .aload_n 0, 0, 0, 0), (6, .getfield 15, 4, 1, 0), (9, .if_icmp .ge 21, 30, 0, 0), (12, .iload_n 1, 0, 0, 0), (13, .aload_n 0, 0, 0, 0), (14, .getfield 9, 4, 0, 0), (17, .arraylength, 0, 0, 0), (18, .if_icmp .ge 12, 30, 0, 0), (21, .aload_n 0, 0, 0, 0), (22, .getfield 9, 4, 0, 0), (25, .iload_n 1, 0, 0, 0), (26, .caload, 0, 0, 0), (27, .goto 4, 31, 0, 0), (30, .iconst 0, 0, 0, 0), (31, .ireturn, 0, 0, 0)]
def bd_58 : List BE := [(0, .aload_n 0, 0, 0, 0), (1, .invokespecial 3, 1000, 0, 0), (4, .aload_n 0, 0, 0, 0), (5, .new 9, 2, 0, 0), (8, .dup, 0, 0, 0), (9, .invokespecial 11, 22, 0, 0), (12, .putfield 12, 5, 0, 1), (15, .aload_n 0, 0, 0, 0), (16, .aload_n 0, 0, 0, 0), (17, .getfield 12, 5, 0, 0), (20, .getfield 16, 2, 0, 0), (23, .putfield 20, 5, 1, 1), (26, .aload_n 0, 0, 0, 0), (27, .new 21, 0, 0, 0), (30, .dup, 0, 0, 0), (31, .invokespecial 23, 1, 0, 0), (34, .putfield 24, 5, 2, 1), (37, .aload_n 0, 0, 0, 0), (38, .new 28, 4, 0, 0), (41, .dup, 0, 0, 0), (42, .invokespecial 30, 51, 0, 0), (45, .putfield 31, 5, 3, 1), (48, .aload_n 0, 0, 0, 0), (49, .new 35, 1, 0, 0), (52, .dup, 0, 0, 0), (53, .invokespecial 37, 12, 0, 0), (56, .putfield 38, 5, 4, 1), (59, .return_, 0, 0, 0)]
def bd_59 : List BE := [(0, .iload_n 1, 0, 0, 0), (1, .invokestatic 42, 81, 0, 0), (4, .ifCond .ne 6, 10, 0, 0), (7, .ldc 46, 0, 0, (-1000001)), (9, .ireturn, 0, 0, 0), (10, .aload_n 0, 0, 0, 0), (11, .getfield 24, 5, 2, 0), (14, .aload_n 0, 0, 0, 0), (15, .getfield 20, 5, 1, 0), (18, .invokevirtual 47, 2, 0, 0), (21, .aload_n 0, 0, 0, 0), (22, .getfield 20, 5, 1, 0), (25, .getfield 51, 3, 0, 0), (28, .istore_n 2, 0, 0, 0), (29, .aload_n 0, 0, 0, 0), (30, .getfield 20, 5, 1, 0), (33, .iload_n 1, 0, 0, 0), (34, .invokevirtual 57, 44, 0, 0), (37, .iload_n 2, 0, 0, 0), (38, .ireturn, 0, 0, 0)]
def bd_60 : List BE := [(0, .aload_n 0, 0, 0, 0), (1, .getfield 20, 5, 1, 0), (4, .getfield 51, 3, 0, 0), (7, .bipush 9, 0, 0, 9), (9, .if_icmp .eq 6, 15, 0, 0), (12, .ldc 61, 0, 0, (-1000002)), (14, .ireturn, 0, 0, 0), (15, .aload_n 0, 0, 0, 0), (16, .getfield 24, 5, 2, 0), (19, .aload_n 0, 0, 0, 0), (20, .getfield 20, 5, 1, 0), (23, .invokevirtual 47, 2, 0, 0), (26, .aload_n 0, 0, 0, 0), (27, .getfield 20, 5, 1, 0), (30, .invokevirtual 62, 45, 0, 0), (33, .ireturn, 0, 0, 0)]
def bd_61 : List BE := [(0, .aload_n 0, 0, 0, 0), (1, .getfield 20, 5, 1, 0), (4, .iload_n 1, 0, 0, 0), (5, .invokevirtual 66, 37, 0, 0), (8, .ifCond .eq 25, 33, 0, 0), (11, .aload_n 0, 0, 0, 0), (12, .getfield 20, 5, 1, 0), (15, .iload_n 2, 0, 0, 0), (16, .invokevirtual 66, 37, 0, 0), (19, .ifCond .eq 14, 33, 0, 0), (22, .aload_n 0, 0, 0, 0), (23, .getfield 20, 5, 1, 0), (26, .iload_n 3, 0, 0, 0), (27, .invokevirtual 66, 37, 0, 0), (30, .ifCond .ne 6, 36, 0, 0), (33, .ldc 46, 0, 0, (-1000001)), (35, .ireturn, 0, 0, 0), (36, .aload_n 0, 0, 0, 0), (37, .getfield 24, 5, 2, 0), (40, .aload_n 0, 0, 0, 0), (41, .getfield 20, 5, 1, 0), (44, .invokevirtual 47, 2, 0, 0), (47, .aload_n 0, 0, 0, 0), (48, .getfield 20, 5, 1, 0), (51, .iload_n 1, 0, 0, 0), (52, .iload_n 2, 0, 0, 0), (53, .invokevirtual 69, 40, 0, 0), (56, .istore 4, 0, 0, 0), (58, .aload_n 0, 0, 0, 0), (59, .getfield 20, 5, 1, 0), (62, .iload_n 1, 0, 0, 0), (63, .iload_n 2, 0, 0, 0), (64, .iload_n 3, 0, 0, 0), (65, .invokevirtual 73, 43, 0, 0), (68, .pop, 0, 0, 0), (69, .iload 4, 0, 0, 0), (71, .ireturn, 0, 0, 0)]
def bd_62 : List BE := [(0, .aload_n 0, 0, 0, 0), (1, .getfield 24, 5, 2, 0), (4, .aload_n 0, 0, 0, 0), (5, .getfield 20, 5, 1, 0), (8, .invokevirtual 47, 2, 0, 0), (11, .aload_n 0, 0, 0, 0), (12, .getfield 20, 5, 1, 0), (15, .invokevirtual 77, 46, 0, 0), (18, .ireturn, 0, 0, 0)]
def bd_63 : List BE := [(0, .aload_n 0, 0, 0, 0), (1, .getfield 20, 5, 1, 0), (4, .iload_n 1, 0, 0, 0), (5, .invokevirtual 66, 37, 0, 0), (8, .ifCond .eq 14, 22, 0, 0), (11, .aload_n 0, 0, 0, 0), (12, .getfield 20, 5, 1, 0), (15, .iload_n 2, 0, 0, 0), (16, .invokevirtual 66, 37, 0, 0), (19, .ifCond .ne 6, 25, 0, 0), (22, .ldc 46, 0, 0, (-1000001)), (24, .ireturn, 0, 0, 0), (25, .iload_n 3, 0, 0, 0), (26, .tableswitch 92 0 4 #[34, 44, 54, 64, 78], 0, 0, 0), (60, .aload_n 0, 0, 0, 0), (61, .getfield 20, 5, 1, 0), (64, .iload_n 1, 0, 0, 0), (65, .iload_n 2, 0, 0, 0), (66, .invokevirtual 80, 38, 0, 0), (69, .ireturn, 0, 0, 0), (70, .aload_n 0, 0, 0, 0), (71, .getfield 20, 5, 1, 0), (74, .iload_n 1, 0, 0, 0), (75, .iload_n 2, 0, 0, 0), (76, .invokevirtual 83, 39, 0, 0), (79, .ireturn, 0, 0, 0), (80, .aload_n 0, 0, 0, 0), (81, .getfield 20, 5, 1, 0), (84, .iload_n 1, 0, 0, 0), (85, .iload_n 2, 0, 0, 0), (86, .invokevirtual 69, 40, 0, 0), (89, .ireturn, 0, 0, 0), (90, .aload_n 0, 0, 0, 0), (91, .getfield 20, 5, 1, 0), (94, .iload_n 1, 0, 0, 0), (95, .iload_n 2, 0, 0, 0), (96, .iconst 1, 0, 0, 0), (97, .invokevirtual 86, 42, 0, 0), (100, .invokestatic 90, 83, 0, 0), (103, .ireturn, 0, 0, 0), (104, .aload_n 0, 0, 0, 0), (105, .getfield 20, 5, 1, 0), (108, .iload_n 1, 0, 0, 0), (109, .iload_n 2, 0, 0, 0), (110, .iconst 0, 0, 0, 0), (111, .invokevirtual 86, 42, 0, 0), (114, .invokestatic 90, 83, 0, 0), (117, .ireturn, 0, 0, 0), (118, .ldc 46, 0, 0, (-1000001)), (120, .ireturn, 0, 0, 0)]
def bd_64 : List BE := [(0, .iload_n 1, 0, 0, 0), (1, .ifCond .lt 18, 19, 0, 0), (4, .iload_n 1, 0, 0, 0), (5, .bipush 8, 0, 0, 8), (7, .if_icmp .ge 12, 19, 0, 0), (10, .iload_n 2, 0, 0, 0), (11, .ifCond .lt 8, 19, 0, 0), (14, .iload_n 2, 0, 0, 0), (15, .iconst 3, 0, 0, 0), (16, .if_icmp .le 6, 22, 0, 0), (19, .ldc 46, 0, 0, (-1000001)), (21, .ireturn, 0, 0, 0), (22, .aload_n 0, 0, 0, 0), (23, .getfield 20, 5, 1, 0), (26, .iload_n 1, 0, 0, 0), (27, .invokestatic 94, 5, 0, 0), (30, .istore_n 3, 0, 0, 0), (31, .iload_n 2, 0, 0, 0), (32, .ifCond .ne 14, 46, 0, 0), (35, .iload_n 3, 0, 0, 0), (36, .iconst (-1), 0, 0, 0), (37, .if_icmp .ne 7, 44, 0, 0), (40, .iconst 1, 0, 0, 0), (41, .goto 4, 45, 0, 0), (44, .iconst 0, 0, 0, 0), (45, .ireturn, 0, 0, 0), (46, .iload_n 3, 0, 0, 0), (47, .iconst (-1), 0, 0, 0), (48, .if_icmp .ne 8, 56, 0, 0), (51, .ldc 100, 0, 0, (-1000004)), (53, .goto 8, 61, 0, 0), (56, .iload_n 3, 0, 0, 0), (57, .iload_n 2, 0, 0, 0), (58, .invokestatic 101, 6, 0, 0), (61, .ireturn, 0, 0, 0)]
def bd_65 : List BE := [(0, .iload_n 1, 0, 0, 0), (1, .ifCond .lt 8, 9, 0, 0), (4, .iload_n 1, 0, 0, 0), (5, .iconst 2, 0, 0, 0), (6, .if_icmp .le 6, 12, 0, 0), (9, .ldc 46, 0, 0, (-1000001)), (11, .ireturn, 0, 0, 0), (12, .iconst 0, 0, 0, 0), (13, .istore_n 2, 0, 0, 0), (14, .iconst 0, 0, 0, 0), (15, .istore_n 3, 0, 0, 0), (16, .iload_n 3, 0, 0, 0), (17, .aload_n 0, 0, 0, 0), (18, .getfield 20, 5, 1, 0), (21, .getfield 51, 3, 0, 0), (24, .if_icmp .ge 27, 51, 0, 0), (27, .aload_n 0, 0, 0, 0), (28, .getfield 20, 5, 1, 0), (31, .iload_n 1, 0, 0, 0), (32, .iload_n 3, 0, 0, 0), (33, .invokestatic 104, 8, 0, 0), (36, .ifCond .eq 9, 45, 0, 0), (39, .iload_n 2, 0, 0, 0), (40, .iconst 1, 0, 0, 0), (41, .iload_n 3, 0, 0, 0), (42, .ishl, 0, 0, 0), (43, .ior, 0, 0, 0), (44, .istore_n 2, 0, 0, 0), (45, .iinc 3 1, 0, 0, 0), (48, .goto (-32), 16, 0, 0), (51, .iload_n 2, 0, 0, 0), (52, .ireturn, 0, 0, 0)]
def bd_66 : List BE := [(0, .aload_n 0, 0, 0, 0), (1, .getfield 12, 5, 0, 0), (4, .iload_n 1, 0, 0, 0), (5, .invokevirtual 108, 24, 0, 0), (8, .ifCond .eq 14, 22, 0, 0), (11, .aload_n 0, 0, 0, 0), (12, .getfield 12, 5, 0, 0), (15, .iload_n 2, 0, 0, 0), (16, .invokevirtual 108, 24, 0, 0), (19, .ifCond .ne 6, 25, 0, 0), (22, .ldc 46, 0, 0, (-1000001)), (24, .ireturn, 0, 0, 0), (25, .aload_n 0, 0, 0, 0), (26, .getfield 12, 5, 0, 0), (29, .iload_n 1, 0, 0, 0), (30, .iload_n 2, 0, 0, 0), (31, .invokevirtual 109, 26, 0, 0), (34, .ifCond .eq 7, 41, 0, 0), (37, .iconst 1, 0, 0, 0), (38, .goto 4, 42, 0, 0), (41, .iconst 0, 0, 0, 0), (42, .ireturn, 0, 0, 0)]
def bd_67 : List BE := [(0, .aload_n 0, 0, 0, 0), (1, .getfield 12, 5, 0, 0), (4, .iload_n 1, 0, 0, 0), (5, .invokevirtual 108, 24, 0, 0), (8, .ifCond .eq 16, 24, 0, 0), (11, .iload_n 2, 0, 0, 0), (12, .ifCond .lt 12, 24, 0, 0), (15, .iload_n 2, 0, 0, 0), (16, .iconst 1, 0, 0, 0), (17, .if_icmp .gt 7, 24, 0, 0), (20, .iload_n 3, 0, 0, 0), (21, .ifCond .ge 6, 27, 0, 0), (24, .ldc 46, 0, 0, (-1000001)), (26, .ireturn, 0, 0, 0), (27, .iload_n 2, 0, 0, 0), (28, .ifCond .ne 15, 43, 0, 0), (31, .aload_n 0, 0, 0, 0), (32, .getfield 12, 5, 0, 0), (35, .iload_n 1, 0, 0, 0), (36, .iload_n 3, 0, 0, 0), (37, .invokevirtual 113, 27, 0, 0), (40, .goto 12, 52, 0, 0), (43, .aload_n 0, 0, 0, 0), (44, .getfield 12, 5, 0, 0), (47, .iload_n 1, 0, 0, 0), (48, .iload_n 3, 0, 0, 0), (49, .invokevirtual 116, 28, 0, 0), (52, .invokestatic 90, 83, 0, 0), (55, .ireturn, 0, 0, 0)]
def bd_68 : List BE := [(0, .aload_n 0, 0, 0, 0), (1, .getfield 12, 5, 0, 0), (4, .iload_n 1, 0, 0, 0), (5, .invokevirtual 108, 24, 0, 0), (8, .ifCond .eq 28, 36, 0, 0), (11, .aload_n 0, 0, 0, 0), (12, .getfield 12, 5, 0, 0), (15, .iload_n 2, 0, 0, 0), (16, .invokevirtual 108, 24, 0, 0), (19, .ifCond .eq 17, 36, 0, 0), (22, .iload_n 1, 0, 0, 0), (23, .iload_n 2, 0, 0, 0), (24, .if_icmp .eq 12, 36, 0, 0), (27, .iload_n 3, 0, 0, 0), (28, .ifCond .lt 8, 36, 0, 0), (31, .iload_n 3, 0, 0, 0), (32, .iconst 1, 0, 0, 0), (33, .if_icmp .le 6, 39, 0, 0), (36, .ldc 46, 0, 0, (-1000001)), (38, .ireturn, 0, 0, 0), (39, .iload_n 3, 0, 0, 0), (40, .ifCond .ne 15, 55, 0, 0), (43, .aload_n 0, 0, 0, 0), (44, .getfield 12, 5, 0, 0), (47, .iload_n 1, 0, 0, 0), (48, .iload_n 2, 0, 0, 0), (49, .invokevirtual 119, 29, 0, 0), (52, .goto 12, 64, 0, 0), (55, .aload_n 0, 0, 0, 0), (56, .getfield 12, 5, 0, 0), (59, .iload_n 1, 0, 0, 0), (60, .iload_n 2, 0, 0, 0), (61, .invokevirtual 122, 30, 0, 0), (64, .invokestatic 90, 83, 0, 0), (67, .ireturn, 0, 0, 0)]
def bd_69 : List BE := [(0, .iload_n 1, 0, 0, 0), (1, .tableswitch 61 0 2 #[27, 43, 52], 0, 0, 0), (28, .aload_n 0, 0, 0, 0), (29, .getfield 12, 5, 0, 0), (32, .invokevirtual 125, 25, 0, 0), (35, .ifCond .eq 7, 42, 0, 0), (38, .iconst 1, 0, 0, 0), (39, .goto 4, 43, 0, 0), (42, .iconst 0, 0, 0, 0), (43, .ireturn, 0, 0, 0), (44, .aload_n 0, 0, 0, 0), (45, .getfield 20, 5, 1, 0), (48, .iconst 1, 0, 0, 0), (49, .invokestatic 129, 10, 0, 0), (52, .ireturn, 0, 0, 0), (53, .aload_n 0, 0, 0, 0), (54, .getfield 20, 5, 1, 0), (57, .iconst 0, 0, 0, 0), (58, .invokestatic 129, 10, 0, 0), (61, .ireturn, 0, 0, 0), (62, .ldc 46, 0, 0, (-1000001)), (64, .ireturn, 0, 0, 0)]
def bd_70 : List BE := [(0, .aload_n 0, 0, 0, 0), (1, .getfield 20, 5, 1, 0), (4, .getfield 51, 3, 0, 0), (7, .istore 7, 0, 0, 0), (9, .iload_n 2, 0, 0, 0), (10, .iload 7, 0, 0, 0), (12, .invokestatic 133, 82, 0, 0), (15, .ifCond .eq 43, 58, 0, 0), (18, .iload_n 3, 0, 0, 0), (19, .iload 7, 0, 0, 0), (21, .invokestatic 133, 82, 0, 0), (24, .ifCond .eq 34, 58, 0, 0), (27, .iload 4, 0, 0, 0), (29, .iload 7, 0, 0, 0), (31, .invokestatic 133, 82, 0, 0), (34, .ifCond .eq 24, 58, 0, 0), (37, .iload_n 2, 0, 0, 0), (38, .iload_n 3, 0, 0, 0), (39, .if_icmp .eq 19, 58, 0, 0), (42, .iload_n 2, 0, 0, 0), (43, .iload 4, 0, 0, 0), (45, .if_icmp .eq 13, 58, 0, 0), (48, .iload_n 3, 0, 0, 0), (49, .iload 4, 0, 0, 0), (51, .if_icmp .eq 7, 58, 0, 0), (54, .iconst 1, 0, 0, 0), (55, .goto 4, 59, 0, 0), (58, .iconst 0, 0, 0, 0), (59, .istore 8, 0, 0, 0), (61, .iload 5, 0, 0, 0), (63, .iload 7, 0, 0, 0), (65, .iconst 1, 0, 0, 0), (66, .isub, 0, 0, 0), (67, .invokestatic 133, 82, 0, 0), (70, .ifCond .eq 26, 96, 0, 0), (73, .iload 6, 0, 0, 0), (75, .iload 7, 0, 0, 0), (77, .iconst 1, 0, 0, 0), (78, .isub, 0, 0, 0), (79, .invokestatic 133, 82, 0, 0), (82, .ifCond .eq 14, 96, 0, 0), (85, .iload 5, 0, 0, 0), (87, .iload 6, 0, 0, 0), (89, .if_icmp .eq 7, 96, 0, 0), (92, .iconst 1, 0, 0, 0), (93, .goto 4, 97, 0, 0), (96, .iconst 0, 0, 0, 0), (97, .istore 9, 0, 0, 0), (99, .aload_n 0, 0, 0, 0), (100, .getfield 12, 5, 0, 0), (103, .iload_n 1, 0, 0, 0), (104, .invokevirtual 108, 24, 0, 0), (107, .ifCond .eq 13, 120, 0, 0), (110, .iload 8, 0, 0, 0), (112, .ifCond .eq 8, 120, 0, 0), (115, .iload 9, 0, 0, 0), (117, .ifCond .ne 6, 123, 0, 0), (120, .ldc 46, 0, 0, (-1000001)), (122, .ireturn, 0, 0, 0), (123, .aload_n 0, 0, 0, 0), (124, .getfield 12, 5, 0, 0), (127, .invokevirtual 125, 25, 0, 0), (130, .ifCond .ne 6, 136, 0, 0), (133, .ldc 61, 0, 0, (-1000002)), (135, .ireturn, 0, 0, 0), (136, .aload_n 0, 0, 0, 0), (137, .getfield 12, 5, 0, 0), (140, .iload_n 1, 0, 0, 0), (141, .iload_n 2, 0, 0, 0), (142, .iload_n 3, 0, 0, 0), (143, .iload 4, 0, 0, 0), (145, .iload 5, 0, 0, 0), (147, .iload 6, 0, 0, 0), (149, .invokevirtual 136, 34, 0, 0), (152, .ireturn, 0, 0, 0)]
def bd_71 : List BE := [(0, .aload_n 0, 0, 0, 0), (1, .getfield 12, 5, 0, 0), (4, .iload_n 1, 0, 0, 0), (5, .invokevirtual 108, 24, 0, 0), (8, .ifCond .ne 6, 14, 0, 0), (11, .ldc 46, 0, 0, (-1000001)), (13, .ireturn, 0, 0, 0), (14, .aload_n 0, 0, 0, 0), (15, .getfield 12, 5, 0, 0), (18, .invokevirtual 125, 25, 0, 0), (21, .ifCond .ne 6, 27, 0, 0), (24, .ldc 61, 0, 0, (-1000002)), (26, .ireturn, 0, 0, 0), (27, .iconst 0, 0, 0, 0), (28, .istore_n 2, 0, 0, 0), (29, .iconst 1, 0, 0, 0), (30, .istore_n 3, 0, 0, 0), (31, .iload_n 3, 0, 0, 0), (32, .aload_n 0, 0, 0, 0), (33, .getfield 20, 5, 1, 0), (36, .getfield 51, 3, 0, 0), (39, .if_icmp .ge 44, 83, 0, 0), (42, .iconst 0, 0, 0, 0), (43, .istore 4, 0, 0, 0), (45, .iload 4, 0, 0, 0), (47, .iload_n 3, 0, 0, 0), (48, .if_icmp .ge 29, 77, 0, 0), (51, .aload_n 0, 0, 0, 0), (52, .getfield 12, 5, 0, 0), (55, .iload_n 1, 0, 0, 0), (56, .iconst 0, 0, 0, 0), (57, .iconst 1, 0, 0, 0), (58, .iconst 2, 0, 0, 0), (59, .iload 4, 0, 0, 0), (61, .iload_n 3, 0, 0, 0), (62, .invokevirtual 136, 34, 0, 0), (65, .ifCond .ne 6, 71, 0, 0), (68, .iinc 2 1, 0, 0, 0), (71, .iinc 4 1, 0, 0, 0), (74, .goto (-29), 45, 0, 0), (77, .iinc 3 1, 0, 0, 0), (80, .goto (-49), 31, 0, 0), (83, .iload_n 2, 0, 0, 0), (84, .ireturn, 0, 0, 0)]
def bd_72 : List BE := [(0, .aload_n 0, 0, 0, 0), (1, .getfield 12, 5, 0, 0), (4, .iload_n 1, 0, 0, 0), (5, .invokevirtual 108, 24, 0, 0), (8, .ifCond .eq 19, 27, 0, 0), (11, .aload_n 0, 0, 0, 0), (12, .getfield 12, 5, 0, 0), (15, .iload_n 2, 0, 0, 0), (16, .invokevirtual 108, 24, 0, 0), (19, .ifCond .eq 8, 27, 0, 0), (22, .iload_n 1, 0, 0, 0), (23, .iload_n 2, 0, 0, 0), (24, .if_icmp .ne 6, 30, 0, 0), (27, .ldc 46, 0, 0, (-1000001)), (29, .ireturn, 0, 0, 0), (30, .aload_n 0, 0, 0, 0), (31, .getfield 20, 5, 1, 0), (34, .getfield 51, 3, 0, 0), (37, .iconst 3, 0, 0, 0), (38, .if_icmp .lt 13, 51, 0, 0), (41, .aload_n 0, 0, 0, 0), (42, .getfield 12, 5, 0, 0), (45, .invokevirtual 125, 25, 0, 0), (48, .ifCond .ne 6, 54, 0, 0), (51, .ldc 61, 0, 0, (-1000002)), (53, .ireturn, 0, 0, 0), (54, .aload_n 0, 0, 0, 0), (55, .getfield 12, 5, 0, 0), (58, .iload_n 1, 0, 0, 0), (59, .iload_n 2, 0, 0, 0), (60, .invokevirtual 140, 35, 0, 0), (63, .ifCond .eq 7, 70, 0, 0), (66, .iconst 1, 0, 0, 0), (67, .goto 4, 71, 0, 0), (70, .iconst 0, 0, 0, 0), (71, .ireturn, 0, 0, 0)]
def bd_73 : List BE := [(0, .aload_n 0, 0, 0, 0), (1, .getfield 12, 5, 0, 0), (4, .iload_n 1, 0, 0, 0), (5, .invokevirtual 108, 24, 0, 0), (8, .ifCond .eq 14, 22, 0, 0), (11, .aload_n 0, 0, 0, 0), (12, .getfield 12, 5, 0, 0), (15, .iload_n 2, 0, 0, 0), (16, .invokevirtual 108, 24, 0, 0), (19, .ifCond .ne 6, 25, 0, 0), (22, .ldc 46, 0, 0, (-1000001)), (24, .ireturn, 0, 0, 0), (25, .aload_n 0, 0, 0, 0), (26, .getfield 12, 5, 0, 0), (29, .invokevirtual 125, 25, 0, 0), (32, .ifCond .ne 6, 38, 0, 0), (35, .ldc 61, 0, 0, (-1000002)), (37, .ireturn, 0, 0, 0), (38, .aload_n 0, 0, 0, 0), (39, .getfield 38, 5, 4, 0), (42, .aload_n 0, 0, 0, 0), (43, .getfield 12, 5, 0, 0), (46, .iload_n 1, 0, 0, 0), (47, .iload_n 2, 0, 0, 0), (48, .invokevirtual 143, 13, 0, 0), (51, .ireturn, 0, 0, 0)]
def bd_74 : List BE := [(0, .iconst 0, 0, 0, 0), (1, .istore_n 1, 0, 0, 0), (2, .iconst 0, 0, 0, 0), (3, .istore_n 2, 0, 0, 0), (4, .iload_n 2, 0, 0, 0), (5, .bipush 8, 0, 0, 8), (7, .if_icmp .ge 24, 31, 0, 0), (10, .aload_n 0, 0, 0, 0), (11, .getfield 20, 5, 1, 0), (14, .iload_n 2, 0, 0, 0), (15, .invokestatic 94, 5, 0, 0), (18, .iconst (-1), 0, 0, 0), (19, .if_icmp .ne 6, 25, 0, 0), (22, .iinc 1 1, 0, 0, 0), (25, .iinc 2 1, 0, 0, 0), (28, .goto (-24), 4, 0, 0), (31, .iload_n 1, 0, 0, 0), (32, .i2f, 0, 0, 0), (33, .ldc 147, 0, 1, 1090519040), (35, .fdiv, 0, 0, 0), (36, .invokestatic 148, 84, 0, 0), (39, .ireturn, 0, 0, 0)]
def bd_75 : List BE := [(0, .iload_n 1, 0, 0, 0), (1, .tableswitch 87 0 5 #[39, 47, 55, 63, 71, 79], 0, 0, 0), (40, .aload_n 0, 0, 0, 0), (41, .getfield 20, 5, 1, 0), (44, .getfield 51, 3, 0, 0), (47, .ireturn, 0, 0, 0), (48, .aload_n 0, 0, 0, 0), (49, .getfield 12, 5, 0, 0), (52, .invokevirtual 152, 23, 0, 0), (55, .ireturn, 0, 0, 0), (56, .aload_n 0, 0, 0, 0), (57, .getfield 20, 5, 1, 0), (60, .invokevirtual 155, 47, 0, 0), (63, .ireturn, 0, 0, 0), (64, .aload_n 0, 0, 0, 0), (65, .getfield 20, 5, 1, 0), (68, .invokevirtual 158, 48, 0, 0), (71, .ireturn, 0, 0, 0), (72, .aload_n 0, 0, 0, 0), (73, .getfield 24, 5, 2, 0), (76, .getfield 161, 0, 2, 0), (79, .ireturn, 0, 0, 0), (80, .aload_n 0, 0, 0, 0), (81, .getfield 31, 5, 3, 0), (84, .getfield 164, 4, 1, 0), (87, .ireturn, 0, 0, 0), (88, .ldc 46, 0, 0, (-1000001)), (90, .ireturn, 0, 0, 0)]
def bd_76 : List BE := [(0, .aload_n 0, 0, 0, 0), (1, .getfield 24, 5, 2, 0), (4, .getfield 161, 0, 2, 0), (7, .ifCond .ne 6, 13, 0, 0), (10, .ldc 61, 0, 0, (-1000002)), (12, .ireturn, 0, 0, 0), (13, .aload_n 0, 0, 0, 0), (14, .getfield 24, 5, 2, 0), (17, .aload_n 0, 0, 0, 0), (18, .getfield 20, 5, 1, 0), (21, .invokevirtual 167, 3, 0, 0), (24, .aload_n 0, 0, 0, 0), (25, .getfield 24, 5, 2, 0), (28, .getfield 161, 0, 2, 0), (31, .ireturn, 0, 0, 0)]
def bd_77 : List BE := [(0, .iload_n 1, 0, 0, 0), (1, .bipush 32, 0, 0, 32), (3, .if_icmp .lt 9, 12, 0, 0), (6, .iload_n 1, 0, 0, 0), (7, .bipush 126, 0, 0, 126), (9, .if_icmp .le 6, 15, 0, 0), (12, .ldc 46, 0, 0, (-1000001)), (14, .ireturn, 0, 0, 0), (15, .aload_n 0, 0, 0, 0), (16, .getfield 31, 5, 3, 0), (19, .iload_n 1, 0, 0, 0), (20, .i2c, 0, 0, 0), (21, .invokevirtual 170, 52, 0, 0), (24, .ifCond .eq 13, 37, 0, 0), (27, .aload_n 0, 0, 0, 0), (28, .getfield 31, 5, 3, 0), (31, .getfield 164, 4, 1, 0), (34, .goto 5, 39, 0, 0), (37, .ldc 174, 0, 0, (-1000003)), (39, .ireturn, 0, 0, 0)]
def bd_78 : List BE := [(0, .aload_n 0, 0, 0, 0), (1, .getfield 31, 5, 3, 0), (4, .getfield 164, 4, 1, 0), (7, .istore_n 1, 0, 0, 0), (8, .aload_n 0, 0, 0, 0), (9, .getfield 31, 5, 3, 0), (12, .iconst 0, 0, 0, 0), (13, .putfield 164, 4, 1, 0), (16, .iload_n 1, 0, 0, 0), (17, .ireturn, 0, 0, 0)]
def bd_79 : List BE := [(0, .iload_n 1, 0, 0, 0), (1, .ifCond .lt 8, 9, 0, 0), (4, .iload_n 1, 0, 0, 0), (5, .iconst 1, 0, 0, 0), (6, .if_icmp .le 6, 12, 0, 0), (9, .ldc 46, 0, 0, (-1000001)), (11, .ireturn, 0, 0, 0), (12, .aload_n 0, 0, 0, 0), (13, .getfield 31, 5, 3, 0), (16, .aload_n 0, 0, 0, 0), (17, .getfield 20, 5, 1, 0), (20, .invokevirtual 175, 53, 0, 0), (23, .istore_n 2, 0, 0, 0), (24, .iload_n 2, 0, 0, 0), (25, .iconst (-1), 0, 0, 0), (26, .if_icmp .ne 6, 32, 0, 0), (29, .ldc 100, 0, 0, (-1000004)), (31, .ireturn, 0, 0, 0), (32, .iload_n 1, 0, 0, 0), (33, .ifCond .ne 7, 40, 0, 0), (36, .iload_n 2, 0, 0, 0), (37, .goto 15, 52, 0, 0), (40, .aload_n 0, 0, 0, 0), (41, .getfield 31, 5, 3, 0), (44, .iload_n 2, 0, 0, 0), (45, .aload_n 0, 0, 0, 0), (46, .getfield 20, 5, 1, 0), (49, .invokevirtual 179, 54, 0, 0), (52, .ireturn, 0, 0, 0)]
def bd_80 : List BE := [(0, .aload_n 0, 0, 0, 0), (1, .getfield 31, 5, 3, 0), (4, .aload_n 0, 0, 0, 0), (5, .getfield 20, 5, 1, 0), (8, .invokevirtual 175, 53, 0, 0), (11, .iconst (-1), 0, 0, 0), (12, .if_icmp .eq 6, 18, 0, 0), (15, .ldc 61, 0, 0, (-1000002)), (17, .ireturn, 0, 0, 0), (18, .aload_n 0, 0, 0, 0), (19, .getfield 24, 5, 2, 0), (22, .aload_n 0, 0, 0, 0), (23, .getfield 20, 5, 1, 0), (26, .invokevirtual 47, 2, 0, 0), (29, .aload_n 0, 0, 0, 0), (30, .getfield 31, 5, 3, 0), (33, .aload_n 0, 0, 0, 0), (34, .getfield 20, 5, 1, 0), (37, .invokevirtual 183, 55, 0, 0), (40, .ireturn, 0, 0, 0)]
def bd_81 : List BE := [(0, .iload_n 0, 0, 0, 0), (1, .iconst 2, 0, 0, 0), (2, .if_icmp .eq 30, 32, 0, 0), (5, .iload_n 0, 0, 0, 0), (6, .iconst 3, 0, 0, 0), (7, .if_icmp .eq 25, 32, 0, 0), (10, .iload_n 0, 0, 0, 0), (11, .iconst 4, 0, 0, 0), (12, .if_icmp .eq 20, 32, 0, 0), (15, .iload_n 0, 0, 0, 0), (16, .iconst 5, 0, 0, 0), (17, .if_icmp .eq 15, 32, 0, 0), (20, .iload_n 0, 0, 0, 0), (21, .bipush 7, 0, 0, 7), (23, .if_icmp .eq 9, 32, 0, 0), (26, .iload_n 0, 0, 0, 0), (27, .bipush 9, 0, 0, 9), (29, .if_icmp .ne 7, 36, 0, 0), (32, .iconst 1, 0, 0, 0), (33, .goto 4, 37, 0, 0), (36, .iconst 0, 0, 0, 0), (37, .ireturn, 0, 0, 0)]
def bd_82 : List BE := [(0, .iload_n 0, 0, 0, 0), (1, .ifCond .lt 12, 13, 0, 0), (4, .iload_n 0, 0, 0, 0), (5, .iload_n 1, 0, 0, 0), (6, .if_icmp .gt 7, 13, 0, 0), (9, .iconst 1, 0, 0, 0), (10, .goto 4, 14, 0, 0), (13, .iconst 0, 0, 0, 0), (14, .ireturn, 0, 0, 0)]
def bd_83 : List BE := [(0, .iload_n 0, 0, 0, 0), (1, .iconst (-1), 0, 0, 0), (2, .if_icmp .ne 8, 10, 0, 0), (5, .ldc 100, 0, 0, (-1000004)), (7, .goto 4, 11, 0, 0), (10, .iload_n 0, 0, 0, 0), (11, .ireturn, 0, 0, 0)]
def bd_84 : List BE := [(0, .fload_n 0, 0, 0, 0), (1, .fconst 0, 0, 0, 0), (2, .fcmp .g, 0, 0, 0), (3, .ifCond .gt 5, 8, 0, 0), (6, .iconst 0, 0, 0, 0), (7, .ireturn, 0, 0, 0), (8, .fload_n 0, 0, 0, 0), (9, .fstore_n 1, 0, 0, 0), (10, .bipush 127, 0, 0, 127), (12, .istore_n 2, 0, 0, 0), (13, .iconst 0, 0, 0, 0), (14, .istore_n 3, 0, 0, 0), (15, .iload_n 3, 0, 0, 0), (16, .bipush 126, 0, 0, 126), (18, .if_icmp .ge 22, 40, 0, 0), (21, .fload_n 1, 0, 0, 0), (22, .fconst 1, 0, 0, 0), (23, .fcmp .g, 0, 0, 0), (24, .ifCond .ge 16, 40, 0, 0), (27, .fload_n 1, 0, 0, 0), (28, .fconst 2, 0, 0, 0), (29, .fmul, 0, 0, 0), (30, .fstore_n 1, 0, 0, 0), (31, .iinc 2 (-1), 0, 0, 0), (34, .iinc 3 1, 0, 0, 0), (37, .goto (-22), 15, 0, 0), (40, .iload_n 2, 0, 0, 0), (41, .bipush 23, 0, 0, 23), (43, .ishl, 0, 0, 0), (44, .fload_n 1, 0, 0, 0), (45, .fconst 1, 0, 0, 0), (46, .fsub, 0, 0, 0), (47, .ldc 186, 0, 1, 1258291200), (49, .fmul, 0, 0, 0), (50, .f2i, 0, 0, 0), (51, .iadd, 0, 0, 0), (52, .ireturn, 0, 0, 0)]
def bd_85 : List BE := [(0, .aload_n 0, 0, 0, 0), (1, .invokespecial 1, 1000, 0, 0), (4, .aload_n 0, 0, 0, 0), (5, .bipush 82, 0, 0, 82), (7, .newarray .int, 0, 0, 0), (9, .putfield 7, 6, 0, 1), (12, .aload_n 0, 0, 0, 0), (13, .sipush 328, 0, 0, 328), (16, .newarray .int, 0, 0, 0), (18, .putfield 13, 6, 1, 1), (21, .aload_n 0, 0, 0, 0), (22, .bipush 60, 0, 0, 60), (24, .newarray .int, 0, 0, 0), (26, .putfield 16, 6, 3, 1), (29, .aload_n 0, 0, 0, 0), (30, .sipush 182, 0, 0, 182), (33, .newarray .long, 2, 0, 0), (35, .putfield 19, 6, 8, 1), (38, .aload_n 0, 0, 0, 0), (39, .sipush 182, 0, 0, 182), (42, .newarray .long, 2, 0, 0), (44, .putfield 23, 6, 9, 1), (47, .aload_n 0, 0, 0, 0), (48, .bipush 91, 0, 0, 91), (50, .newarray .int, 0, 0, 0), (52, .putfield 26, 6, 10, 1), (55, .aload_n 0, 0, 0, 0), (56, .getfield 7, 6, 0, 0), (59, .iconst 0, 0, 0, 0), (60, .iconst 3, 0, 0, 0), (61, .iastore, 0, 0, 0), (62, .aload_n 0, 0, 0, 0), (63, .invokevirtual 29, 96, 0, 0), (66, .return_, 0, 0, 0)]
def bd_86 : List BE := [(0, .iload_n 0, 0, 0, 0), (1, .iload_n 1, 0, 0, 0), (2, .if_icmp .lt 12, 14, 0, 0), (5, .iload_n 0, 0, 0, 0), (6, .iload_n 2, 0, 0, 0), (7, .if_icmp .gt 7, 14, 0, 0), (10, .iconst 1, 0, 0, 0), (11, .goto 4, 15, 0, 0), (14, .iconst 0, 0, 0, 0), (15, .ireturn, 0, 0, 0)]
def bd_87 : List BE := [(0, .aload_n 0, 0, 0, 0), (1, .getfield 32, 6, 2, 0), (4, .iconst 4, 0, 0, 0), (5, .if_icmp .ne 43, 48, 0, 0), (8, .iconst 0, 0, 0, 0), (9, .istore_n 1, 0, 0, 0), (10, .iload_n 1, 0, 0, 0), (11, .sipush 246, 0, 0, 246), (14, .if_icmp .ge 24, 38, 0, 0), (17, .aload_n 0, 0, 0, 0), (18, .getfield 13, 6, 1, 0), (21, .iload_n 1, 0, 0, 0), (22, .aload_n 0, 0, 0, 0), (23, .getfield 13, 6, 1, 0), (26, .iload_n 1, 0, 0, 0), (27, .bipush 82, 0, 0, 82), (29, .iadd, 0, 0, 0), (30, .iaload, 0, 0, 0), (31, .iastore, 0, 0, 0), (32, .iinc 1 1, 0, 0, 0), (35, .goto (-25), 10, 0, 0), (38, .aload_n 0, 0, 0, 0), (39, .dup, 0, 0, 0), (40, .getfield 32, 6, 2, 0), (43, .iconst 1, 0, 0, 0), (44, .isub, 0, 0, 0), (45, .putfield 32, 6, 2, 0), (48, .iconst 0, 0, 0, 0), (49, .istore_n 1, 0, 0, 0), (50, .iload_n 1, 0, 0, 0), (51, .bipush 82, 0, 0, 82), (53, .if_icmp .ge 29, 82, 0, 0), (56, .aload_n 0, 0, 0, 0), (57, .getfield 13, 6, 1, 0), (60, .bipush 82, 0, 0, 82), (62, .aload_n 0, 0, 0, 0), (63, .getfield 32, 6, 2, 0), (66, .imul, 0, 0, 0), (67, .iload_n 1, 0, 0, 0), (68, .iadd, 0, 0, 0), (69, .aload_n 0, 0, 0, 0), (70, .getfield 7, 6, 0, 0), (73, .iload_n 1, 0, 0, 0), (74, .iaload, 0, 0, 0), (75, .iastore, 0, 0, 0), (76, .iinc 1 1, 0, 0, 0), (79, .goto (-29), 50, 0, 0), (82, .aload_n 0, 0, 0, 0), (83, .dup, 0, 0, 0), (84, .getfield 32, 6, 2, 0), (87, .iconst 1, 0, 0, 0), (88, .iadd, 0, 0, 0), (89, .putfield 32, 6, 2, 0), (92, .return_, 0, 0, 0)]
def bd_88 : List BE := [(0, .iload_n 1, 0, 0, 0), (1, .ifCond .lt 17, 18, 0, 0), (4, .iload_n 1, 0, 0, 0), (5, .aload_n 0, 0, 0, 0), (6, .getfield 7, 6, 0, 0), (9, .iconst 0, 0, 0, 0), (10, .iaload, 0, 0, 0), (11, .if_icmp .ge 7, 18, 0, 0), (14, .iconst 1, 0, 0, 0), (15, .goto 4, 19, 0, 0), (18, .iconst 0, 0, 0, 0), (19, .ireturn, 0, 0, 0)]
def bd_89 : List BE := [(0, .aload_n 0, 0, 0, 0), (1, .getfield 7, 6, 0, 0), (4, .iconst 0, 0, 0, 0), (5, .iaload, 0, 0, 0), (6, .aload_n 0, 0, 0, 0), (7, .getfield 7, 6, 0, 0), (10, .iconst 0, 0, 0, 0), (11, .iaload, 0, 0, 0), (12, .imul, 0, 0, 0), (13, .aload_n 0, 0, 0, 0), (14, .getfield 7, 6, 0, 0), (17, .iconst 0, 0, 0, 0), (18, .iaload, 0, 0, 0), (19, .iadd, 0, 0, 0), (20, .iconst 1, 0, 0, 0), (21, .iadd, 0, 0, 0), (22, .ireturn, 0, 0, 0)]
def bd_90 : List BE := [(0, .iload_n 1, 0, 0, 0), (1, .ifCond .lt 15, 16, 0, 0), (4, .iload_n 1, 0, 0, 0), (5, .aload_n 0, 0, 0, 0), (6, .invokevirtual 36, 89, 0, 0), (9, .if_icmp .ge 7, 16, 0, 0), (12, .iconst 1, 0, 0, 0), (13, .goto 4, 17, 0, 0), (16, .iconst 0, 0, 0, 0), (17, .ireturn, 0, 0, 0)]
def bd_91 : List BE := [(0, .aload_n 0, 0, 0, 0), (1, .getfield 7, 6, 0, 0), (4, .iconst 0, 0, 0, 0), (5, .iaload, 0, 0, 0), (6, .istore_n 3, 0, 0, 0), (7, .iload_n 3, 0, 0, 0), (8, .iconst 4, 0, 0, 0), (9, .if_icmp .ne 9, 18, 0, 0), (12, .iload_n 1, 0, 0, 0), (13, .iload_n 2, 0, 0, 0), (14, .ixor, 0, 0, 0), (15, .goto 34, 49, 0, 0), (18, .iload_n 3, 0, 0, 0), (19, .bipush 9, 0, 0, 9), (21, .if_icmp .ne 23, 44, 0, 0), (24, .iconst 3, 0, 0, 0), (25, .iload_n 1, 0, 0, 0), (26, .iconst 3, 0, 0, 0), (27, .idiv, 0, 0, 0), (28, .iload_n 2, 0, 0, 0), (29, .iconst 3, 0, 0, 0), (30, .idiv, 0, 0, 0), (31, .iadd, 0, 0, 0), (32, .iconst 3, 0, 0, 0), (33, .irem, 0, 0, 0), (34, .imul, 0, 0, 0), (35, .iload_n 1, 0, 0, 0), (36, .iload_n 2, 0, 0, 0), (37, .iadd, 0, 0, 0), (38, .iconst 3, 0, 0, 0), (39, .irem, 0, 0, 0), (40, .iadd, 0, 0, 0), (41, .goto 8, 49, 0, 0), (44, .iload_n 1, 0, 0, 0), (45, .iload_n 2, 0, 0, 0), (46, .iadd, 0, 0, 0), (47, .iload_n 3, 0, 0, 0), (48, .irem, 0, 0, 0), (49, .ireturn, 0, 0, 0)]
def bd_92 : List BE := [(0, .iconst 0, 0, 0, 0), (1, .istore_n 3, 0, 0, 0), (2, .aload_n 0, 0, 0, 0), (3, .iload_n 2, 0, 0, 0), (4, .iload_n 3, 0, 0, 0), (5, .invokevirtual 40, 91, 0, 0), (8, .iload_n 1, 0, 0, 0), (9, .if_icmp .eq 9, 18, 0, 0), (12, .iinc 3 1, 0, 0, 0), (15, .goto (-13), 2, 0, 0), (18, .iload_n 3, 0, 0, 0), (19, .ireturn, 0, 0, 0)]
def bd_93 : List BE := [(0, .aload_n 0, 0, 0, 0), (1, .getfield 7, 6, 0, 0), (4, .iconst 0, 0, 0, 0), (5, .iaload, 0, 0, 0), (6, .istore_n 3, 0, 0, 0), (7, .iload_n 3, 0, 0, 0), (8, .iconst 4, 0, 0, 0), (9, .if_icmp .ne 46, 55, 0, 0), (12, .iload_n 1, 0, 0, 0), (13, .ifCond .eq 7, 20, 0, 0), (16, .iload_n 2, 0, 0, 0), (17, .ifCond .ne 7, 24, 0, 0), (20, .iconst 0, 0, 0, 0), (21, .goto 33, 54, 0, 0), (24, .iload_n 1, 0, 0, 0), (25, .iconst 1, 0, 0, 0), (26, .if_icmp .ne 7, 33, 0, 0), (29, .iload_n 2, 0, 0, 0), (30, .goto 24, 54, 0, 0), (33, .iload_n 2, 0, 0, 0), (34, .iconst 1, 0, 0, 0), (35, .if_icmp .ne 7, 42, 0, 0), (38, .iload_n 1, 0, 0, 0), (39, .goto 15, 54, 0, 0), (42, .iload_n 1, 0, 0, 0), (43, .iload_n 2, 0, 0, 0), (44, .if_icmp .ne 9, 53, 0, 0), (47, .iconst 5, 0, 0, 0), (48, .iload_n 1, 0, 0, 0), (49, .isub, 0, 0, 0), (50, .goto 4, 54, 0, 0), (53, .iconst 1, 0, 0, 0), (54, .ireturn, 0, 0, 0), (55, .iload_n 3, 0, 0, 0), (56, .bipush 9, 0, 0, 9), (58, .if_icmp .ne 51, 109, 0, 0), (61, .iload_n 1, 0, 0, 0), (62, .iconst 3, 0, 0, 0), (63, .idiv, 0, 0, 0), (64, .iload_n 2, 0, 0, 0), (65, .iconst 3, 0, 0, 0), (66, .irem, 0, 0, 0), (67, .imul, 0, 0, 0), (68, .iload_n 1, 0, 0, 0), (69, .iconst 3, 0, 0, 0), (70, .irem, 0, 0, 0), (71, .iload_n 2, 0, 0, 0), (72, .iconst 3, 0, 0, 0), (73, .idiv, 0, 0, 0), (74, .imul, 0, 0, 0), (75, .iadd, 0, 0, 0), (76, .istore 4, 0, 0, 0), (78, .iload_n 1, 0, 0, 0), (79, .iconst 3, 0, 0, 0), (80, .irem, 0, 0, 0), (81, .iload_n 2, 0, 0, 0), (82, .iconst 3, 0, 0, 0), (83, .irem, 0, 0, 0), (84, .imul, 0, 0, 0), (85, .iconst 2, 0, 0, 0), (86, .iload_n 1, 0, 0, 0), (87, .iconst 3, 0, 0, 0), (88, .idiv, 0, 0, 0), (89, .imul, 0, 0, 0), (90, .iload_n 2, 0, 0, 0), (91, .iconst 3, 0, 0, 0), (92, .idiv, 0, 0, 0), (93, .imul, 0, 0, 0), (94, .iadd, 0, 0, 0), (95, .istore 5, 0, 0, 0), (97, .iconst 3, 0, 0, 0), (98, .iload 4, 0, 0, 0), (100, .iconst 3, 0, 0, 0), (101, .irem, 0, 0, 0), (102, .imul, 0, 0, 0), (103, .iload 5, 0, 0, 0), (105, .iconst 3, 0, 0, 0), (106, .irem, 0, 0, 0), (107, .iadd, 0, 0, 0), (108, .ireturn, 0, 0, 0), (109, .iload_n 1, 0, 0, 0), (110, .iload_n 2, 0, 0, 0), (111, .imul, 0, 0, 0), (112, .iload_n 3, 0, 0, 0), (113, .irem, 0, 0, 0), (114, .ireturn, 0, 0, 0)]
def bd_94 : List BE := [(0, .aload_n 0, 0, 0, 0), (1, .getfield 7, 6, 0, 0), (4, .iconst 1, 0, 0, 0), (5, .bipush 9, 0, 0, 9), (7, .iload_n 1, 0, 0, 0), (8, .imul, 0, 0, 0), (9, .iadd, 0, 0, 0), (10, .iload_n 2, 0, 0, 0), (11, .iadd, 0, 0, 0), (12, .iaload, 0, 0, 0), (13, .ireturn, 0, 0, 0)]
def bd_95 : List BE := [(0, .aload_n 0, 0, 0, 0), (1, .getfield 7, 6, 0, 0), (4, .iconst 1, 0, 0, 0), (5, .bipush 9, 0, 0, 9), (7, .iload_n 1, 0, 0, 0), (8, .imul, 0, 0, 0), (9, .iadd, 0, 0, 0), (10, .iload_n 2, 0, 0, 0), (11, .iadd, 0, 0, 0), (12, .iload_n 3, 0, 0, 0), (13, .iastore, 0, 0, 0), (14, .return_, 0, 0, 0)]
def bd_96 : List BE := [(0, .iconst 0, 0, 0, 0), (1, .istore_n 1, 0, 0, 0), (2, .iload_n 1, 0, 0, 0), (3, .bipush 9, 0, 0, 9), (5, .if_icmp .ge 59, 64, 0, 0), (8, .iconst 0, 0, 0, 0), (9, .istore_n 2, 0, 0, 0), (10, .iload_n 2, 0, 0, 0), (11, .bipush 9, 0, 0, 9), (13, .if_icmp .ge 45, 58, 0, 0), (16, .aload_n 0, 0, 0, 0), (17, .iload_n 1, 0, 0, 0), (18, .iload_n 2, 0, 0, 0), (19, .iload_n 1, 0, 0, 0), (20, .aload_n 0, 0, 0, 0), (21, .getfield 7, 6, 0, 0), (24, .iconst 0, 0, 0, 0), (25, .iaload, 0, 0, 0), (26, .if_icmp .ge 22, 48, 0, 0), (29, .iload_n 2, 0, 0, 0), (30, .aload_n 0, 0, 0, 0), (31, .getfield 7, 6, 0, 0), (34, .iconst 0, 0, 0, 0), (35, .iaload, 0, 0, 0), (36, .if_icmp .ge 12, 48, 0, 0), (39, .aload_n 0, 0, 0, 0), (40, .iload_n 1, 0, 0, 0), (41, .iload_n 2, 0, 0, 0), (42, .invokevirtual 44, 93, 0, 0), (45, .goto 4, 49, 0, 0), (48, .iconst 0, 0, 0, 0), (49, .invokevirtual 47, 95, 0, 0), (52, .iinc 2 1, 0, 0, 0), (55, .goto (-45), 10, 0, 0), (58, .iinc 1 1, 0, 0, 0), (61, .goto (-59), 2, 0, 0), (64, .return_, 0, 0, 0)]
def bd_97 : List BE := [(0, .iload_n 1, 0, 0, 0), (1, .iconst 2, 0, 0, 0), (2, .if_icmp .eq 33, 35, 0, 0), (5, .iload_n 1, 0, 0, 0), (6, .iconst 3, 0, 0, 0), (7, .if_icmp .eq 28, 35, 0, 0), (10, .iload_n 1, 0, 0, 0), (11, .iconst 4, 0, 0, 0), (12, .if_icmp .eq 23, 35, 0, 0), (15, .iload_n 1, 0, 0, 0), (16, .iconst 5, 0, 0, 0), (17, .if_icmp .eq 18, 35, 0, 0), (20, .iload_n 1, 0, 0, 0), (21, .bipush 7, 0, 0, 7), (23, .if_icmp .eq 12, 35, 0, 0), (26, .iload_n 1, 0, 0, 0), (27, .bipush 9, 0, 0, 9), (29, .if_icmp .eq 6, 35, 0, 0), (32, .ldc 51, 0, 0, (-1000001)), (34, .ireturn, 0, 0, 0), (35, .aload_n 0, 0, 0, 0), (36, .invokevirtual 52, 87, 0, 0), (39, .aload_n 0, 0, 0, 0), (40, .getfield 7, 6, 0, 0), (43, .iconst 0, 0, 0, 0), (44, .iaload, 0, 0, 0), (45, .istore_n 2, 0, 0, 0), (46, .aload_n 0, 0, 0, 0), (47, .getfield 7, 6, 0, 0), (50, .iconst 0, 0, 0, 0), (51, .iload_n 1, 0, 0, 0), (52, .iastore, 0, 0, 0), (53, .aload_n 0, 0, 0, 0), (54, .invokevirtual 29, 96, 0, 0), (57, .iload_n 2, 0, 0, 0), (58, .ireturn, 0, 0, 0)]
def bd_98 : List BE := [(0, .iload_n 1, 0, 0, 0), (1, .ifCond .ne 7, 8, 0, 0), (4, .iconst 1, 0, 0, 0), (5, .goto 4, 9, 0, 0), (8, .iconst 0, 0, 0, 0), (9, .istore_n 2, 0, 0, 0), (10, .iconst 0, 0, 0, 0), (11, .istore_n 3, 0, 0, 0), (12, .iload_n 3, 0, 0, 0), (13, .bipush 9, 0, 0, 9), (15, .if_icmp .ge 29, 44, 0, 0), (18, .iload_n 2, 0, 0, 0), (19, .ifCond .ne 13, 32, 0, 0), (22, .aload_n 0, 0, 0, 0), (23, .iload_n 3, 0, 0, 0), (24, .iload_n 3, 0, 0, 0), (25, .invokevirtual 44, 93, 0, 0), (28, .iload_n 1, 0, 0, 0), (29, .if_icmp .ne 7, 36, 0, 0), (32, .iconst 1, 0, 0, 0), (33, .goto 4, 37, 0, 0), (36, .iconst 0, 0, 0, 0), (37, .istore_n 2, 0, 0, 0), (38, .iinc 3 1, 0, 0, 0), (41, .goto (-29), 12, 0, 0), (44, .iload_n 2, 0, 0, 0), (45, .ireturn, 0, 0, 0)]
def bd_99 : List BE := [(0, .aload_n 0, 0, 0, 0), (1, .getfield 7, 6, 0, 0), (4, .iconst 0, 0, 0, 0), (5, .iaload, 0, 0, 0), (6, .bipush 9, 0, 0, 9), (8, .if_icmp .eq 6, 14, 0, 0), (11, .ldc 55, 0, 0, (-1000002)), (13, .ireturn, 0, 0, 0), (14, .aload_n 0, 0, 0, 0), (15, .invokevirtual 52, 87, 0, 0), (18, .iconst 0, 0, 0, 0), (19, .istore_n 1, 0, 0, 0), (20, .iconst 0, 0, 0, 0), (21, .istore_n 2, 0, 0, 0), (22, .iload_n 2, 0, 0, 0), (23, .bipush 9, 0, 0, 9), (25, .if_icmp .ge 90, 115, 0, 0), (28, .aload_n 0, 0, 0, 0), (29, .iload_n 2, 0, 0, 0), (30, .invokevirtual 56, 98, 0, 0), (33, .istore_n 3, 0, 0, 0), (34, .iconst 0, 0, 0, 0), (35, .istore 4, 0, 0, 0), (37, .iload 4, 0, 0, 0), (39, .bipush 9, 0, 0, 9), (41, .if_icmp .ge 68, 109, 0, 0), (44, .aload_n 0, 0, 0, 0), (45, .iload_n 3, 0, 0, 0), (46, .ifCond .eq 8, 54, 0, 0), (49, .iload 4, 0, 0, 0), (51, .goto 17, 68, 0, 0), (54, .aload_n 0, 0, 0, 0), (55, .aload_n 0, 0, 0, 0), (56, .iload 4, 0, 0, 0), (58, .iload 4, 0, 0, 0), (60, .invokevirtual 44, 93, 0, 0), (63, .iload 4, 0, 0, 0), (65, .invokevirtual 44, 93, 0, 0), (68, .iload_n 2, 0, 0, 0), (69, .invokevirtual 44, 93, 0, 0), (72, .istore 5, 0, 0, 0), (74, .iload_n 1, 0, 0, 0), (75, .iload 5, 0, 0, 0), (77, .aload_n 0, 0, 0, 0), (78, .iload 4, 0, 0, 0), (80, .iload_n 2, 0, 0, 0), (81, .invokevirtual 60, 94, 0, 0), (84, .if_icmp .ne 7, 91, 0, 0), (87, .iconst 0, 0, 0, 0), (88, .goto 4, 92, 0, 0), (91, .iconst 1, 0, 0, 0), (92, .iadd, 0, 0, 0), (93, .istore_n 1, 0, 0, 0), (94, .aload_n 0, 0, 0, 0), (95, .iload 4, 0, 0, 0), (97, .iload_n 2, 0, 0, 0), (98, .iload 5, 0, 0, 0), (100, .invokevirtual 47, 95, 0, 0), (103, .iinc 4 1, 0, 0, 0), (106, .goto (-69), 37, 0, 0), (109, .iinc 2 1, 0, 0, 0), (112, .goto (-90), 22, 0, 0), (115, .iload_n 1, 0, 0, 0), (116, .ireturn, 0, 0, 0)]
def bd_100 : List BE := [(0, .aload_n 0, 0, 0, 0), (1, .iload_n 1, 0, 0, 0), (2, .invokevirtual 63, 88, 0, 0), (5, .ifCond .eq 19, 24, 0, 0), (8, .aload_n 0, 0, 0, 0), (9, .iload_n 2, 0, 0, 0), (10, .invokevirtual 63, 88, 0, 0), (13, .ifCond .eq 11, 24, 0, 0), (16, .aload_n 0, 0, 0, 0), (17, .iload_n 3, 0, 0, 0), (18, .invokevirtual 63, 88, 0, 0), (21, .ifCond .ne 6, 27, 0, 0), (24, .ldc 51, 0, 0, (-1000001)), (26, .ireturn, 0, 0, 0), (27, .aload_n 0, 0, 0, 0), (28, .invokevirtual 52, 87, 0, 0), (31, .aload_n 0, 0, 0, 0), (32, .iload_n 1, 0, 0, 0), (33, .iload_n 2, 0, 0, 0), (34, .invokevirtual 60, 94, 0, 0), (37, .istore 4, 0, 0, 0), (39, .aload_n 0, 0, 0, 0), (40, .iload_n 1, 0, 0, 0), (41, .iload_n 2, 0, 0, 0), (42, .iload_n 3, 0, 0, 0), (43, .invokevirtual 47, 95, 0, 0), (46, .iload 4, 0, 0, 0), (48, .ireturn, 0, 0, 0)]
def bd_101 : List BE := [(0, .aload_n 0, 0, 0, 0), (1, .invokevirtual 52, 87, 0, 0), (4, .iconst 0, 0, 0, 0), (5, .istore_n 1, 0, 0, 0), (6, .iconst 0, 0, 0, 0), (7, .istore_n 2, 0, 0, 0), (8, .iload_n 2, 0, 0, 0), (9, .aload_n 0, 0, 0, 0), (10, .getfield 7, 6, 0, 0), (13, .iconst 0, 0, 0, 0), (14, .iaload, 0, 0, 0), (15, .if_icmp .ge 69, 84, 0, 0), (18, .iconst 0, 0, 0, 0), (19, .istore_n 3, 0, 0, 0), (20, .iload_n 3, 0, 0, 0), (21, .iload_n 2, 0, 0, 0), (22, .if_icmp .ge 56, 78, 0, 0), (25, .aload_n 0, 0, 0, 0), (26, .iload_n 2, 0, 0, 0), (27, .iload_n 3, 0, 0, 0), (28, .invokevirtual 60, 94, 0, 0), (31, .istore 4, 0, 0, 0), (33, .aload_n 0, 0, 0, 0), (34, .iload_n 3, 0, 0, 0), (35, .iload_n 2, 0, 0, 0), (36, .invokevirtual 60, 94, 0, 0), (39, .istore 5, 0, 0, 0), (41, .iload_n 1, 0, 0, 0), (42, .iload 4, 0, 0, 0), (44, .iload 5, 0, 0, 0), (46, .if_icmp .ne 7, 53, 0, 0), (49, .iconst 0, 0, 0, 0), (50, .goto 4, 54, 0, 0), (53, .iconst 2, 0, 0, 0), (54, .iadd, 0, 0, 0), (55, .istore_n 1, 0, 0, 0), (56, .aload_n 0, 0, 0, 0), (57, .iload_n 2, 0, 0, 0), (58, .iload_n 3, 0, 0, 0), (59, .iload 5, 0, 0, 0), (61, .invokevirtual 47, 95, 0, 0), (64, .aload_n 0, 0, 0, 0), (65, .iload_n 3, 0, 0, 0), (66, .iload_n 2, 0, 0, 0), (67, .iload 4, 0, 0, 0), (69, .invokevirtual 47, 95, 0, 0), (72, .iinc 3 1, 0, 0, 0), (75, .goto (-55), 20, 0, 0), (78, .iinc 2 1, 0, 0, 0), (81, .goto (-73), 8, 0, 0), (84, .iload_n 1, 0, 0, 0), (85, .ireturn, 0, 0, 0)]
def bd_102 : List BE := [(0, .aload_n 0, 0, 0, 0), (1, .iload_n 1, 0, 0, 0), (2, .invokevirtual 63, 88, 0, 0), (5, .ifCond .eq 20, 25, 0, 0), (8, .aload_n 0, 0, 0, 0), (9, .iload_n 2, 0, 0, 0), (10, .invokevirtual 63, 88, 0, 0), (13, .ifCond .eq 12, 25, 0, 0), (16, .iload_n 3, 0, 0, 0), (17, .iconst 0, 0, 0, 0), (18, .iconst 4, 0, 0, 0), (19, .invokestatic 66, 86, 0, 0), (22, .ifCond .ne 6, 28, 0, 0), (25, .ldc 51, 0, 0, (-1000001)), (27, .ireturn, 0, 0, 0), (28, .iload_n 3, 0, 0, 0), (29, .iconst 3, 0, 0, 0), (30, .if_icmp .ge 37, 67, 0, 0), (33, .iload_n 3, 0, 0, 0), (34, .ifCond .ne 12, 46, 0, 0), (37, .aload_n 0, 0, 0, 0), (38, .iload_n 1, 0, 0, 0), (39, .iload_n 2, 0, 0, 0), (40, .invokevirtual 40, 91, 0, 0), (43, .goto 23, 66, 0, 0), (46, .iload_n 3, 0, 0, 0), (47, .iconst 1, 0, 0, 0), (48, .if_icmp .ne 12, 60, 0, 0), (51, .aload_n 0, 0, 0, 0), (52, .iload_n 1, 0, 0, 0), (53, .iload_n 2, 0, 0, 0), (54, .invokevirtual 70, 92, 0, 0), (57, .goto 9, 66, 0, 0), (60, .aload_n 0, 0, 0, 0), (61, .iload_n 1, 0, 0, 0), (62, .iload_n 2, 0, 0, 0), (63, .invokevirtual 60, 94, 0, 0), (66, .ireturn, 0, 0, 0), (67, .iconst 0, 0, 0, 0), (68, .istore 4, 0, 0, 0), (70, .iload 4, 0, 0, 0), (72, .aload_n 0, 0, 0, 0), (73, .getfield 7, 6, 0, 0), (76, .iconst 0, 0, 0, 0), (77, .iaload, 0, 0, 0), (78, .if_icmp .ge 38, 116, 0, 0), (81, .iload_n 3, 0, 0, 0), (82, .iconst 3, 0, 0, 0), (83, .if_icmp .ne 13, 96, 0, 0), (86, .aload_n 0, 0, 0, 0), (87, .iload_n 1, 0, 0, 0), (88, .iload 4, 0, 0, 0), (90, .invokevirtual 60, 94, 0, 0), (93, .goto 10, 103, 0, 0), (96, .aload_n 0, 0, 0, 0), (97, .iload 4, 0, 0, 0), (99, .iload_n 1, 0, 0, 0), (100, .invokevirtual 60, 94, 0, 0), (103, .iload_n 2, 0, 0, 0), (104, .if_icmp .ne 6, 110, 0, 0), (107, .iload 4, 0, 0, 0), (109, .ireturn, 0, 0, 0), (110, .iinc 4 1, 0, 0, 0), (113, .goto (-43), 70, 0, 0), (116, .ldc 73, 0, 0, (-1000004)), (118, .ireturn, 0, 0, 0)]
def bd_103 : List BE := [(0, .iconst 0, 0, 0, 0), (1, .istore 4, 0, 0, 0), (3, .iconst 0, 0, 0, 0), (4, .istore 5, 0, 0, 0), (6, .iload 5, 0, 0, 0), (8, .aload_n 0, 0, 0, 0), (9, .getfield 7, 6, 0, 0), (12, .iconst 0, 0, 0, 0), (13, .iaload, 0, 0, 0), (14, .if_icmp .ge 78, 92, 0, 0), (17, .iload_n 3, 0, 0, 0), (18, .bipush 6, 0, 0, 6), (20, .if_icmp .ne 24, 44, 0, 0), (23, .aload_n 0, 0, 0, 0), (24, .aload_n 0, 0, 0, 0), (25, .iload_n 1, 0, 0, 0), (26, .iload 5, 0, 0, 0), (28, .invokevirtual 60, 94, 0, 0), (31, .aload_n 0, 0, 0, 0), (32, .iload_n 2, 0, 0, 0), (33, .iload 5, 0, 0, 0), (35, .invokevirtual 60, 94, 0, 0), (38, .invokevirtual 70, 92, 0, 0), (41, .goto 21, 62, 0, 0), (44, .aload_n 0, 0, 0, 0), (45, .aload_n 0, 0, 0, 0), (46, .iload 5, 0, 0, 0), (48, .iload_n 1, 0, 0, 0), (49, .invokevirtual 60, 94, 0, 0), (52, .aload_n 0, 0, 0, 0), (53, .iload 5, 0, 0, 0), (55, .iload_n 2, 0, 0, 0), (56, .invokevirtual 60, 94, 0, 0), (59, .invokevirtual 70, 92, 0, 0), (62, .istore 6, 0, 0, 0), (64, .iload 4, 0, 0, 0), (66, .iload 6, 0, 0, 0), (68, .ishr, 0, 0, 0), (69, .iconst 1, 0, 0, 0), (70, .iand, 0, 0, 0), (71, .iconst 1, 0, 0, 0), (72, .if_icmp .ne 5, 77, 0, 0), (75, .iconst 0, 0, 0, 0), (76, .ireturn, 0, 0, 0), (77, .iload 4, 0, 0, 0), (79, .iconst 1, 0, 0, 0), (80, .iload 6, 0, 0, 0), (82, .ishl, 0, 0, 0), (83, .ior, 0, 0, 0), (84, .istore 4, 0, 0, 0), (86, .iinc 5 1, 0, 0, 0), (89, .goto (-83), 6, 0, 0), (92, .iconst 1, 0, 0, 0), (93, .ireturn, 0, 0, 0)]
def bd_104 : List BE := [(0, .iload_n 1, 0, 0, 0), (1, .tableswitch 220 0 5 #[39, 63, 89, 127, 166, 199], 0, 0, 0), (40, .aload_n 0, 0, 0, 0), (41, .iconst 0, 0, 0, 0), (42, .iload_n 2, 0, 0, 0), (43, .invokevirtual 60, 94, 0, 0), (46, .ifCond .ne 16, 62, 0, 0), (49, .aload_n 0, 0, 0, 0), (50, .iload_n 2, 0, 0, 0), (51, .iconst 0, 0, 0, 0), (52, .invokevirtual 60, 94, 0, 0), (55, .ifCond .ne 7, 62, 0, 0), (58, .iconst 1, 0, 0, 0), (59, .goto 4, 63, 0, 0), (62, .iconst 0, 0, 0, 0), (63, .ireturn, 0, 0, 0), (64, .aload_n 0, 0, 0, 0), (65, .iconst 1, 0, 0, 0), (66, .iload_n 2, 0, 0, 0), (67, .invokevirtual 60, 94, 0, 0), (70, .iload_n 2, 0, 0, 0), (71, .if_icmp .ne 17, 88, 0, 0), (74, .aload_n 0, 0, 0, 0), (75, .iload_n 2, 0, 0, 0), (76, .iconst 1, 0, 0, 0), (77, .invokevirtual 60, 94, 0, 0), (80, .iload_n 2, 0, 0, 0), (81, .if_icmp .ne 7, 88, 0, 0), (84, .iconst 1, 0, 0, 0), (85, .goto 4, 89, 0, 0), (88, .iconst 0, 0, 0, 0), (89, .ireturn, 0, 0, 0), (90, .aload_n 0, 0, 0, 0), (91, .iload_n 2, 0, 0, 0), (92, .aload_n 0, 0, 0, 0), (93, .iload_n 3, 0, 0, 0), (94, .iload 4, 0, 0, 0), (96, .invokevirtual 40, 91, 0, 0), (99, .invokevirtual 60, 94, 0, 0), (102, .aload_n 0, 0, 0, 0), (103, .aload_n 0, 0, 0, 0), (104, .iload_n 2, 0, 0, 0), (105, .iload_n 3, 0, 0, 0), (106, .invokevirtual 60, 94, 0, 0), (109, .aload_n 0, 0, 0, 0), (110, .iload_n 2, 0, 0, 0), (111, .iload 4, 0, 0, 0), (113, .invokevirtual 60, 94, 0, 0), (116, .invokevirtual 40, 91, 0, 0), (119, .if_icmp .ne 7, 126, 0, 0), (122, .iconst 1, 0, 0, 0), (123, .goto 4, 127, 0, 0), (126, .iconst 0, 0, 0, 0), (127, .ireturn, 0, 0, 0), (128, .aload_n 0, 0, 0, 0), (129, .aload_n 0, 0, 0, 0), (130, .iload_n 2, 0, 0, 0), (131, .iload_n 3, 0, 0, 0), (132, .invokevirtual 40, 91, 0, 0), (135, .iload 4, 0, 0, 0), (137, .invokevirtual 60, 94, 0, 0), (140, .aload_n 0, 0, 0, 0), (141, .aload_n 0, 0, 0, 0), (142, .iload_n 2, 0, 0, 0), (143, .iload 4, 0, 0, 0), (145, .invokevirtual 60, 94, 0, 0), (148, .aload_n 0, 0, 0, 0), (149, .iload_n 3, 0, 0, 0), (150, .iload 4, 0, 0, 0), (152, .invokevirtual 60, 94, 0, 0), (155, .invokevirtual 40, 91, 0, 0), (158, .if_icmp .ne 7, 165, 0, 0), (161, .iconst 1, 0, 0, 0), (162, .goto 4, 166, 0, 0), (165, .iconst 0, 0, 0, 0), (166, .ireturn, 0, 0, 0), (167, .aload_n 0, 0, 0, 0), (168, .aload_n 0, 0, 0, 0), (169, .iload_n 2, 0, 0, 0), (170, .iload_n 3, 0, 0, 0), (171, .invokevirtual 60, 94, 0, 0), (174, .iload 4, 0, 0, 0), (176, .invokevirtual 60, 94, 0, 0), (179, .aload_n 0, 0, 0, 0), (180, .iload_n 2, 0, 0, 0), (181, .aload_n 0, 0, 0, 0), (182, .iload_n 3, 0, 0, 0), (183, .iload 4, 0, 0, 0), (185, .invokevirtual 60, 94, 0, 0), (188, .invokevirtual 60, 94, 0, 0), (191, .if_icmp .ne 7, 198, 0, 0), (194, .iconst 1, 0, 0, 0), (195, .goto 4, 199, 0, 0), (198, .iconst 0, 0, 0, 0), (199, .ireturn, 0, 0, 0), (200, .aload_n 0, 0, 0, 0), (201, .iload_n 2, 0, 0, 0), (202, .iload_n 3, 0, 0, 0), (203, .invokevirtual 60, 94, 0, 0), (206, .aload_n 0, 0, 0, 0), (207, .iload_n 3, 0, 0, 0), (208, .iload_n 2, 0, 0, 0), (209, .invokevirtual 60, 94, 0, 0), (212, .if_icmp .ne 7, 219, 0, 0), (215, .iconst 1, 0, 0, 0), (216, .goto 4, 220, 0, 0), (219, .iconst 0, 0, 0, 0), (220, .ireturn, 0, 0, 0), (221, .iload_n 2, 0, 0, 0), (222, .iload_n 3, 0, 0, 0), (223, .if_icmp .eq 13, 236, 0, 0), (226, .aload_n 0, 0, 0, 0), (227, .iload_n 2, 0, 0, 0), (228, .iload_n 3, 0, 0, 0), (229, .iload_n 1, 0, 0, 0), (230, .invokevirtual 74, 103, 0, 0), (233, .ifCond .eq 7, 240, 0, 0), (236, .iconst 1, 0, 0, 0), (237, .goto 4, 241, 0, 0), (240, .iconst 0, 0, 0, 0), (241, .ireturn, 0, 0, 0)]
def bd_105 : List BE := [(0, .aload_n 0, 0, 0, 0), (1, .getfield 7, 6, 0, 0), (4, .iconst 0, 0, 0, 0), (5, .iaload, 0, 0, 0), (6, .istore_n 2, 0, 0, 0), (7, .iload_n 1, 0, 0, 0), (8, .iconst 2, 0, 0, 0), (9, .if_icmp .ge 7, 16, 0, 0), (12, .iconst 1, 0, 0, 0), (13, .goto 4, 17, 0, 0), (16, .iload_n 2, 0, 0, 0), (17, .istore_n 3, 0, 0, 0), (18, .iload_n 1, 0, 0, 0), (19, .iconst 2, 0, 0, 0), (20, .iconst 4, 0, 0, 0), (21, .invokestatic 66, 86, 0, 0), (24, .ifCond .eq 7, 31, 0, 0), (27, .iload_n 2, 0, 0, 0), (28, .goto 4, 32, 0, 0), (31, .iconst 1, 0, 0, 0), (32, .istore 4, 0, 0, 0), (34, .iconst 0, 0, 0, 0), (35, .istore 5, 0, 0, 0), (37, .iload 5, 0, 0, 0), (39, .iload_n 2, 0, 0, 0), (40, .if_icmp .ge 74, 114, 0, 0), (43, .iconst 0, 0, 0, 0), (44, .istore 6, 0, 0, 0), (46, .iload 6, 0, 0, 0), (48, .iload_n 3, 0, 0, 0), (49, .if_icmp .ge 59, 108, 0, 0), (52, .iconst 0, 0, 0, 0), (53, .istore 7, 0, 0, 0), (55, .iload 7, 0, 0, 0), (57, .iload 4, 0, 0, 0), (59, .if_icmp .ge 43, 102, 0, 0), (62, .aload_n 0, 0, 0, 0), (63, .iload_n 1, 0, 0, 0), (64, .iload 5, 0, 0, 0), (66, .iload 6, 0, 0, 0), (68, .iload 7, 0, 0, 0), (70, .invokevirtual 77, 104, 0, 0), (73, .ifCond .ne 23, 96, 0, 0), (76, .aload_n 0, 0, 0, 0), (77, .iload 5, 0, 0, 0), (79, .putfield 81, 6, 5, 0), (82, .aload_n 0, 0, 0, 0), (83, .iload 6, 0, 0, 0), (85, .putfield 84, 6, 6, 0), (88, .aload_n 0, 0, 0, 0), (89, .iload 7, 0, 0, 0), (91, .putfield 87, 6, 7, 0), (94, .iconst 0, 0, 0, 0), (95, .ireturn, 0, 0, 0), (96, .iinc 7 1, 0, 0, 0), (99, .goto (-44), 55, 0, 0), (102, .iinc 6 1, 0, 0, 0), (105, .goto (-59), 46, 0, 0), (108, .iinc 5 1, 0, 0, 0), (111, .goto (-74), 37, 0, 0), (114, .iconst 1, 0, 0, 0), (115, .ireturn, 0, 0, 0)]
def bd_106 : List BE := [(0, .iload_n 1, 0, 0, 0), (1, .iconst 0, 0, 0, 0), (2, .bipush 7, 0, 0, 7), (4, .invokestatic 66, 86, 0, 0), (7, .ifCond .eq 12, 19, 0, 0), (10, .iload_n 2, 0, 0, 0), (11, .iconst 0, 0, 0, 0), (12, .iconst 3, 0, 0, 0), (13, .invokestatic 66, 86, 0, 0), (16, .ifCond .ne 6, 22, 0, 0), (19, .ldc 51, 0, 0, (-1000001)), (21, .ireturn, 0, 0, 0), (22, .aload_n 0, 0, 0, 0), (23, .iload_n 1, 0, 0, 0), (24, .invokevirtual 90, 105, 0, 0), (27, .istore_n 3, 0, 0, 0), (28, .iload_n 2, 0, 0, 0), (29, .ifCond .ne 13, 42, 0, 0), (32, .iload_n 3, 0, 0, 0), (33, .ifCond .eq 7, 40, 0, 0), (36, .iconst 1, 0, 0, 0), (37, .goto 4, 41, 0, 0), (40, .iconst 0, 0, 0, 0), (41, .ireturn, 0, 0, 0), (42, .iload_n 3, 0, 0, 0), (43, .ifCond .eq 8, 51, 0, 0), (46, .ldc 73, 0, 0, (-1000004)), (48, .goto 31, 79, 0, 0), (51, .iload_n 2, 0, 0, 0), (52, .iconst 1, 0, 0, 0), (53, .if_icmp .ne 10, 63, 0, 0), (56, .aload_n 0, 0, 0, 0), (57, .getfield 81, 6, 5, 0), (60, .goto 19, 79, 0, 0), (63, .iload_n 2, 0, 0, 0), (64, .iconst 2, 0, 0, 0), (65, .if_icmp .ne 10, 75, 0, 0), (68, .aload_n 0, 0, 0, 0), (69, .getfield 84, 6, 6, 0), (72, .goto 7, 79, 0, 0), (75, .aload_n 0, 0, 0, 0), (76, .getfield 87, 6, 7, 0), (79, .ireturn, 0, 0, 0)]
def bd_107 : List BE := [(0, .iconst 1, 0, 0, 0), (1, .istore_n 3, 0, 0, 0), (2, .iconst 0, 0, 0, 0), (3, .istore 4, 0, 0, 0), (5, .iload 4, 0, 0, 0), (7, .aload_n 0, 0, 0, 0), (8, .getfield 7, 6, 0, 0), (11, .iconst 0, 0, 0, 0), (12, .iaload, 0, 0, 0), (13, .if_icmp .ge 145, 158, 0, 0), (16, .iload_n 3, 0, 0, 0), (17, .ifCond .eq 28, 45, 0, 0), (20, .iload_n 1, 0, 0, 0), (21, .ifCond .gt 20, 41, 0, 0), (24, .aload_n 0, 0, 0, 0), (25, .iload_n 2, 0, 0, 0), (26, .iload 4, 0, 0, 0), (28, .invokevirtual 60, 94, 0, 0), (31, .aload_n 0, 0, 0, 0), (32, .iload 4, 0, 0, 0), (34, .iload_n 2, 0, 0, 0), (35, .invokevirtual 60, 94, 0, 0), (38, .if_icmp .ne 7, 45, 0, 0), (41, .iconst 1, 0, 0, 0), (42, .goto 4, 46, 0, 0), (45, .iconst 0, 0, 0, 0), (46, .istore_n 3, 0, 0, 0), (47, .iconst 0, 0, 0, 0), (48, .istore 5, 0, 0, 0), (50, .iload 5, 0, 0, 0), (52, .aload_n 0, 0, 0, 0), (53, .getfield 7, 6, 0, 0), (56, .iconst 0, 0, 0, 0), (57, .iaload, 0, 0, 0), (58, .if_icmp .ge 94, 152, 0, 0), (61, .iload_n 1, 0, 0, 0), (62, .ifCond .le 90, 152, 0, 0), (65, .iload_n 3, 0, 0, 0), (66, .ifCond .eq 78, 144, 0, 0), (69, .iload_n 1, 0, 0, 0), (70, .iconst 1, 0, 0, 0), (71, .if_icmp .ne 40, 111, 0, 0), (74, .aload_n 0, 0, 0, 0), (75, .aload_n 0, 0, 0, 0), (76, .iload 4, 0, 0, 0), (78, .iload 5, 0, 0, 0), (80, .invokevirtual 40, 91, 0, 0), (83, .iload_n 2, 0, 0, 0), (84, .invokevirtual 60, 94, 0, 0), (87, .aload_n 0, 0, 0, 0), (88, .aload_n 0, 0, 0, 0), (89, .iload 4, 0, 0, 0), (91, .iload_n 2, 0, 0, 0), (92, .invokevirtual 60, 94, 0, 0), (95, .aload_n 0, 0, 0, 0), (96, .iload 5, 0, 0, 0), (98, .iload_n 2, 0, 0, 0), (99, .invokevirtual 60, 94, 0, 0), (102, .invokevirtual 40, 91, 0, 0), (105, .if_icmp .ne 39, 144, 0, 0), (108, .goto 32, 140, 0, 0), (111, .aload_n 0, 0, 0, 0), (112, .aload_n 0, 0, 0, 0), (113, .iload_n 2, 0, 0, 0), (114, .iload 4, 0, 0, 0), (116, .invokevirtual 60, 94, 0, 0), (119, .iload 5, 0, 0, 0), (121, .invokevirtual 60, 94, 0, 0), (124, .aload_n 0, 0, 0, 0), (125, .iload_n 2, 0, 0, 0), (126, .aload_n 0, 0, 0, 0), (127, .iload 4, 0, 0, 0), (129, .iload 5, 0, 0, 0), (131, .invokevirtual 60, 94, 0, 0), (134, .invokevirtual 60, 94, 0, 0), (137, .if_icmp .ne 7, 144, 0, 0), (140, .iconst 1, 0, 0, 0), (141, .goto 4, 145, 0, 0), (144, .iconst 0, 0, 0, 0), (145, .istore_n 3, 0, 0, 0), (146, .iinc 5 1, 0, 0, 0), (149, .goto (-99), 50, 0, 0), (152, .iinc 4 1, 0, 0, 0), (155, .goto (-150), 5, 0, 0), (158, .iload_n 3, 0, 0, 0), (159, .ireturn, 0, 0, 0)]
def bd_108 : List BE := [(0, .iload_n 1, 0, 0, 0), (1, .iconst 0, 0, 0, 0), (2, .iconst 2, 0, 0, 0), (3, .invokestatic 66, 86, 0, 0), (6, .ifCond .ne 6, 12, 0, 0), (9, .ldc 51, 0, 0, (-1000001)), (11, .ireturn, 0, 0, 0), (12, .iconst 0, 0, 0, 0), (13, .istore_n 2, 0, 0, 0), (14, .iconst 0, 0, 0, 0), (15, .istore_n 3, 0, 0, 0), (16, .iload_n 3, 0, 0, 0), (17, .aload_n 0, 0, 0, 0), (18, .getfield 7, 6, 0, 0), (21, .iconst 0, 0, 0, 0), (22, .iaload, 0, 0, 0), (23, .if_icmp .ge 28, 51, 0, 0), (26, .iload_n 2, 0, 0, 0), (27, .aload_n 0, 0, 0, 0), (28, .iload_n 1, 0, 0, 0), (29, .iload_n 3, 0, 0, 0), (30, .invokevirtual 93, 107, 0, 0), (33, .ifCond .eq 9, 42, 0, 0), (36, .iconst 1, 0, 0, 0), (37, .iload_n 3, 0, 0, 0), (38, .ishl, 0, 0, 0), (39, .goto 4, 43, 0, 0), (42, .iconst 0, 0, 0, 0), (43, .ior, 0, 0, 0), (44, .istore_n 2, 0, 0, 0), (45, .iinc 3 1, 0, 0, 0), (48, .goto (-32), 16, 0, 0), (51, .iload_n 2, 0, 0, 0), (52, .ireturn, 0, 0, 0)]
def bd_109 : List BE := [(0, .aload_n 0, 0, 0, 0), (1, .getfield 7, 6, 0, 0), (4, .iconst 0, 0, 0, 0), (5, .iaload, 0, 0, 0), (6, .istore_n 3, 0, 0, 0), (7, .iload_n 3, 0, 0, 0), (8, .iload_n 3, 0, 0, 0), (9, .imul, 0, 0, 0), (10, .istore 4, 0, 0, 0), (12, .iload_n 2, 0, 0, 0), (13, .iload 4, 0, 0, 0), (15, .iload_n 3, 0, 0, 0), (16, .iadd, 0, 0, 0), (17, .if_icmp .ne 15, 32, 0, 0), (20, .iload_n 1, 0, 0, 0), (21, .iload 4, 0, 0, 0), (23, .if_icmp .lt 7, 30, 0, 0), (26, .iconst 1, 0, 0, 0), (27, .goto 4, 31, 0, 0), (30, .iconst 0, 0, 0, 0), (31, .ireturn, 0, 0, 0), (32, .iload_n 2, 0, 0, 0), (33, .iload 4, 0, 0, 0), (35, .if_icmp .lt 41, 76, 0, 0), (38, .iload_n 1, 0, 0, 0), (39, .iload 4, 0, 0, 0), (41, .if_icmp .ge 21, 62, 0, 0), (44, .iload_n 1, 0, 0, 0), (45, .iload_n 3, 0, 0, 0), (46, .idiv, 0, 0, 0), (47, .iload_n 2, 0, 0, 0), (48, .iload 4, 0, 0, 0), (50, .isub, 0, 0, 0), (51, .if_icmp .ne 7, 58, 0, 0), (54, .iconst 1, 0, 0, 0), (55, .goto 20, 75, 0, 0), (58, .iconst 0, 0, 0, 0), (59, .goto 16, 75, 0, 0), (62, .iload_n 1, 0, 0, 0), (63, .iload 4, 0, 0, 0), (65, .iload_n 3, 0, 0, 0), (66, .iadd, 0, 0, 0), (67, .if_icmp .ne 7, 74, 0, 0), (70, .iconst 1, 0, 0, 0), (71, .goto 4, 75, 0, 0), (74, .iconst 0, 0, 0, 0), (75, .ireturn, 0, 0, 0), (76, .iload_n 1, 0, 0, 0), (77, .iload 4, 0, 0, 0), (79, .if_icmp .ge 34, 113, 0, 0), (82, .iload_n 1, 0, 0, 0), (83, .iload_n 3, 0, 0, 0), (84, .irem, 0, 0, 0), (85, .aload_n 0, 0, 0, 0), (86, .aload_n 0, 0, 0, 0), (87, .iload_n 1, 0, 0, 0), (88, .iload_n 3, 0, 0, 0), (89, .idiv, 0, 0, 0), (90, .iload_n 2, 0, 0, 0), (91, .iload_n 3, 0, 0, 0), (92, .idiv, 0, 0, 0), (93, .invokevirtual 60, 94, 0, 0), (96, .iload_n 2, 0, 0, 0), (97, .iload_n 3, 0, 0, 0), (98, .irem, 0, 0, 0), (99, .invokevirtual 40, 91, 0, 0), (102, .if_icmp .ne 7, 109, 0, 0), (105, .iconst 1, 0, 0, 0), (106, .goto 22, 128, 0, 0), (109, .iconst 0, 0, 0, 0), (110, .goto 18, 128, 0, 0), (113, .iload_n 1, 0, 0, 0), (114, .iload 4, 0, 0, 0), (116, .iload_n 2, 0, 0, 0), (117, .iload_n 3, 0, 0, 0), (118, .idiv, 0, 0, 0), (119, .iadd, 0, 0, 0), (120, .if_icmp .ne 7, 127, 0, 0), (123, .iconst 1, 0, 0, 0), (124, .goto 4, 128, 0, 0), (127, .iconst 0, 0, 0, 0), (128, .ireturn, 0, 0, 0)]
def bd_110 : List BE := [(0, .iload_n 2, 0, 0, 0), (1, .bipush 60, 0, 0, 60), (3, .if_icmp .ge 18, 21, 0, 0), (6, .aload_n 0, 0, 0, 0), (7, .getfield 19, 6, 8, 0), (10, .iload_n 1, 0, 0, 0), (11, .dup2, 0, 0, 0), (12, .laload, 0, 0, 0), (13, .lconst 1, 0, 0, 0), (14, .iload_n 2, 0, 0, 0), (15, .lshl, 0, 0, 0), (16, .lor, 0, 0, 0), (17, .lastore, 0, 0, 0), (18, .goto 18, 36, 0, 0), (21, .aload_n 0, 0, 0, 0), (22, .getfield 23, 6, 9, 0), (25, .iload_n 1, 0, 0, 0), (26, .dup2, 0, 0, 0), (27, .laload, 0, 0, 0), (28, .lconst 1, 0, 0, 0), (29, .iload_n 2, 0, 0, 0), (30, .bipush 60, 0, 0, 60), (32, .isub, 0, 0, 0), (33, .lshl, 0, 0, 0), (34, .lor, 0, 0, 0), (35, .lastore, 0, 0, 0), (36, .return_, 0, 0, 0)]
def bd_111 : List BE := [(0, .iconst 0, 0, 0, 0), (1, .istore_n 1, 0, 0, 0), (2, .iload_n 1, 0, 0, 0), (3, .sipush 182, 0, 0, 182), (6, .if_icmp .ge 23, 29, 0, 0), (9, .aload_n 0, 0, 0, 0), (10, .getfield 19, 6, 8, 0), (13, .iload_n 1, 0, 0, 0), (14, .lconst 0, 0, 0, 0), (15, .lastore, 0, 0, 0), (16, .aload_n 0, 0, 0, 0), (17, .getfield 23, 6, 9, 0), (20, .iload_n 1, 0, 0, 0), (21, .lconst 0, 0, 0, 0), (22, .lastore, 0, 0, 0), (23, .iinc 1 1, 0, 0, 0), (26, .goto (-24), 2, 0, 0), (29, .aload_n 0, 0, 0, 0), (30, .invokevirtual 36, 89, 0, 0), (33, .istore_n 1, 0, 0, 0), (34, .iconst 0, 0, 0, 0), (35, .istore_n 2, 0, 0, 0), (36, .iload_n 2, 0, 0, 0), (37, .iload_n 1, 0, 0, 0), (38, .if_icmp .ge 46, 84, 0, 0), (41, .iconst 0, 0, 0, 0), (42, .istore_n 3, 0, 0, 0), (43, .iload_n 3, 0, 0, 0), (44, .iload_n 1, 0, 0, 0), (45, .if_icmp .ge 33, 78, 0, 0), (48, .aload_n 0, 0, 0, 0), (49, .iload_n 3, 0, 0, 0), (50, .iload_n 2, 0, 0, 0), (51, .invokevirtual 97, 109, 0, 0), (54, .ifCond .eq 18, 72, 0, 0), (57, .aload_n 0, 0, 0, 0), (58, .iload_n 2, 0, 0, 0), (59, .iload_n 3, 0, 0, 0), (60, .invokevirtual 100, 110, 0, 0), (63, .aload_n 0, 0, 0, 0), (64, .bipush 91, 0, 0, 91), (66, .iload_n 3, 0, 0, 0), (67, .iadd, 0, 0, 0), (68, .iload_n 2, 0, 0, 0), (69, .invokevirtual 100, 110, 0, 0), (72, .iinc 3 1, 0, 0, 0), (75, .goto (-32), 43, 0, 0), (78, .iinc 2 1, 0, 0, 0), (81, .goto (-45), 36, 0, 0), (84, .return_, 0, 0, 0)]
def bd_112 : List BE := [(0, .iconst 0, 0, 0, 0), (1, .istore 4, 0, 0, 0), (3, .iload 4, 0, 0, 0), (5, .bipush 60, 0, 0, 60), (7, .if_icmp .ge 23, 30, 0, 0), (10, .lload_n 0, 0, 0, 0), (11, .iload 4, 0, 0, 0), (13, .lshr, 0, 0, 0), (14, .lconst 1, 0, 0, 0), (15, .land, 0, 0, 0), (16, .lconst 1, 0, 0, 0), (17, .lcmp, 0, 0, 0), (18, .ifCond .ne 6, 24, 0, 0), (21, .iload 4, 0, 0, 0), (23, .ireturn, 0, 0, 0), (24, .iinc 4 1, 0, 0, 0), (27, .goto (-24), 3, 0, 0), (30, .iconst 0, 0, 0, 0), (31, .istore 4, 0, 0, 0), (33, .iload 4, 0, 0, 0), (35, .bipush 31, 0, 0, 31), (37, .if_icmp .ge 26, 63, 0, 0), (40, .lload_n 2, 0, 0, 0), (41, .iload 4, 0, 0, 0), (43, .lshr, 0, 0, 0), (44, .lconst 1, 0, 0, 0), (45, .land, 0, 0, 0), (46, .lconst 1, 0, 0, 0), (47, .lcmp, 0, 0, 0), (48, .ifCond .ne 9, 57, 0, 0), (51, .bipush 60, 0, 0, 60), (53, .iload 4, 0, 0, 0), (55, .iadd, 0, 0, 0), (56, .ireturn, 0, 0, 0), (57, .iinc 4 1, 0, 0, 0), (60, .goto (-27), 33, 0, 0), (63, .ldc 73, 0, 0, (-1000004)), (65, .ireturn, 0, 0, 0)]
def bd_113 : List BE := [(0, .lload_n 0, 0, 0, 0), (1, .lconst 0, 0, 0, 0), (2, .lcmp, 0, 0, 0), (3, .ifCond .ne 27, 30, 0, 0), (6, .lload_n 2, 0, 0, 0), (7, .lconst 0, 0, 0, 0), (8, .lcmp, 0, 0, 0), (9, .ifCond .eq 17, 26, 0, 0), (12, .lload_n 2, 0, 0, 0), (13, .lload_n 2, 0, 0, 0), (14, .lconst 1, 0, 0, 0), (15, .lsub, 0, 0, 0), (16, .land, 0, 0, 0), (17, .lconst 0, 0, 0, 0), (18, .lcmp, 0, 0, 0), (19, .ifCond .ne 7, 26, 0, 0), (22, .iconst 1, 0, 0, 0), (23, .goto 28, 51, 0, 0), (26, .iconst 0, 0, 0, 0), (27, .goto 24, 51, 0, 0), (30, .lload_n 2, 0, 0, 0), (31, .lconst 0, 0, 0, 0), (32, .lcmp, 0, 0, 0), (33, .ifCond .ne 17, 50, 0, 0), (36, .lload_n 0, 0, 0, 0), (37, .lload_n 0, 0, 0, 0), (38, .lconst 1, 0, 0, 0), (39, .lsub, 0, 0, 0), (40, .land, 0, 0, 0), (41, .lconst 0, 0, 0, 0), (42, .lcmp, 0, 0, 0), (43, .ifCond .ne 7, 50, 0, 0), (46, .iconst 1, 0, 0, 0), (47, .goto 4, 51, 0, 0), (50, .iconst 0, 0, 0, 0), (51, .ireturn, 0, 0, 0)]
def bd_114 : List BE := [(0, .aload_n 0, 0, 0, 0), (1, .getfield 19, 6, 8, 0), (4, .iload_n 1, 0, 0, 0), (5, .laload, 0, 0, 0), (6, .aload_n 0, 0, 0, 0), (7, .getfield 19, 6, 8, 0), (10, .iload_n 2, 0, 0, 0), (11, .laload, 0, 0, 0), (12, .land, 0, 0, 0), (13, .aload_n 0, 0, 0, 0), (14, .getfield 23, 6, 9, 0), (17, .iload_n 1, 0, 0, 0), (18, .laload, 0, 0, 0), (19, .aload_n 0, 0, 0, 0), (20, .getfield 23, 6, 9, 0), (23, .iload_n 2, 0, 0, 0), (24, .laload, 0, 0, 0), (25, .land, 0, 0, 0), (26, .invokestatic 104, 112, 0, 0), (29, .ireturn, 0, 0, 0)]
def bd_115 : List BE := [(0, .aload_n 0, 0, 0, 0), (1, .bipush 91, 0, 0, 91), (3, .iload_n 1, 0, 0, 0), (4, .iadd, 0, 0, 0), (5, .bipush 91, 0, 0, 91), (7, .iload_n 2, 0, 0, 0), (8, .iadd, 0, 0, 0), (9, .invokevirtual 108, 114, 0, 0), (12, .ireturn, 0, 0, 0)]
def bd_116 : List BE := [(0, .aload_n 0, 0, 0, 0), (1, .iload_n 1, 0, 0, 0), (2, .iload_n 2, 0, 0, 0), (3, .invokevirtual 108, 114, 0, 0), (6, .ireturn, 0, 0, 0)]
def bd_117 : List BE := [(0, .iconst 0, 0, 0, 0), (1, .istore_n 2, 0, 0, 0), (2, .aload_n 0, 0, 0, 0), (3, .invokevirtual 36, 89, 0, 0), (6, .istore_n 3, 0, 0, 0), (7, .iconst 0, 0, 0, 0), (8, .istore 4, 0, 0, 0), (10, .iload 4, 0, 0, 0), (12, .iload_n 3, 0, 0, 0), (13, .if_icmp .ge 77, 90, 0, 0), (16, .iconst 0, 0, 0, 0), (17, .istore 5, 0, 0, 0), (19, .iload 5, 0, 0, 0), (21, .iload 4, 0, 0, 0), (23, .if_icmp .ge 61, 84, 0, 0), (26, .iload_n 2, 0, 0, 0), (27, .aload_n 0, 0, 0, 0), (28, .getfield 19, 6, 8, 0), (31, .iload_n 1, 0, 0, 0), (32, .iload 4, 0, 0, 0), (34, .iadd, 0, 0, 0), (35, .laload, 0, 0, 0), (36, .aload_n 0, 0, 0, 0), (37, .getfield 19, 6, 8, 0), (40, .iload_n 1, 0, 0, 0), (41, .iload 5, 0, 0, 0), (43, .iadd, 0, 0, 0), (44, .laload, 0, 0, 0), (45, .land, 0, 0, 0), (46, .aload_n 0, 0, 0, 0), (47, .getfield 23, 6, 9, 0), (50, .iload_n 1, 0, 0, 0), (51, .iload 4, 0, 0, 0), (53, .iadd, 0, 0, 0), (54, .laload, 0, 0, 0), (55, .aload_n 0, 0, 0, 0), (56, .getfield 23, 6, 9, 0), (59, .iload_n 1, 0, 0, 0), (60, .iload 5, 0, 0, 0), (62, .iadd, 0, 0, 0), (63, .laload, 0, 0, 0), (64, .land, 0, 0, 0), (65, .invokestatic 111, 113, 0, 0), (68, .ifCond .eq 7, 75, 0, 0), (71, .iconst 0, 0, 0, 0), (72, .goto 4, 76, 0, 0), (75, .iconst 1, 0, 0, 0), (76, .iadd, 0, 0, 0), (77, .istore_n 2, 0, 0, 0), (78, .iinc 5 1, 0, 0, 0), (81, .goto (-62), 19, 0, 0), (84, .iinc 4 1, 0, 0, 0), (87, .goto (-77), 10, 0, 0), (90, .iload_n 2, 0, 0, 0), (91, .ireturn, 0, 0, 0)]
def bd_118 : List BE := [(0, .aload_n 0, 0, 0, 0), (1, .invokevirtual 115, 111, 0, 0), (4, .aload_n 0, 0, 0, 0), (5, .bipush 91, 0, 0, 91), (7, .invokevirtual 118, 117, 0, 0), (10, .ifCond .ne 15, 25, 0, 0), (13, .aload_n 0, 0, 0, 0), (14, .iconst 0, 0, 0, 0), (15, .invokevirtual 118, 117, 0, 0), (18, .ifCond .ne 7, 25, 0, 0), (21, .iconst 1, 0, 0, 0), (22, .goto 4, 26, 0, 0), (25, .iconst 0, 0, 0, 0), (26, .ireturn, 0, 0, 0)]
def bd_119 : List BE := [(0, .aload_n 0, 0, 0, 0), (1, .iload_n 1, 0, 0, 0), (2, .invokevirtual 122, 90, 0, 0), (5, .ifCond .eq 11, 16, 0, 0), (8, .aload_n 0, 0, 0, 0), (9, .iload_n 2, 0, 0, 0), (10, .invokevirtual 122, 90, 0, 0), (13, .ifCond .ne 8, 21, 0, 0), (16, .ldc 51, 0, 0, (-1000001)), (18, .goto 17, 35, 0, 0), (21, .aload_n 0, 0, 0, 0), (22, .iload_n 1, 0, 0, 0), (23, .iload_n 2, 0, 0, 0), (24, .invokevirtual 97, 109, 0, 0), (27, .ifCond .eq 7, 34, 0, 0), (30, .iconst 1, 0, 0, 0), (31, .goto 4, 35, 0, 0), (34, .iconst 0, 0, 0, 0), (35, .ireturn, 0, 0, 0)]
def bd_120 : List BE := [(0, .iload_n 2, 0, 0, 0), (1, .istore_n 3, 0, 0, 0), (2, .iconst 0, 0, 0, 0), (3, .istore 4, 0, 0, 0), (5, .iload 4, 0, 0, 0), (7, .bipush 91, 0, 0, 91), (9, .if_icmp .ge 66, 75, 0, 0), (12, .iload 4, 0, 0, 0), (14, .bipush 60, 0, 0, 60), (16, .if_icmp .ge 17, 33, 0, 0), (19, .aload_n 0, 0, 0, 0), (20, .getfield 19, 6, 8, 0), (23, .iload_n 1, 0, 0, 0), (24, .laload, 0, 0, 0), (25, .iload 4, 0, 0, 0), (27, .lshr, 0, 0, 0), (28, .lconst 1, 0, 0, 0), (29, .land, 0, 0, 0), (30, .goto 17, 47, 0, 0), (33, .aload_n 0, 0, 0, 0), (34, .getfield 23, 6, 9, 0), (37, .iload_n 1, 0, 0, 0), (38, .laload, 0, 0, 0), (39, .iload 4, 0, 0, 0), (41, .bipush 60, 0, 0, 60), (43, .isub, 0, 0, 0), (44, .lshr, 0, 0, 0), (45, .lconst 1, 0, 0, 0), (46, .land, 0, 0, 0), (47, .lstore 5, 0, 0, 0), (49, .lload 5, 0, 0, 0), (51, .lconst 1, 0, 0, 0), (52, .lcmp, 0, 0, 0), (53, .ifCond .ne 10, 63, 0, 0), (56, .iload_n 3, 0, 0, 0), (57, .ifCond .ne 6, 63, 0, 0), (60, .iload 4, 0, 0, 0), (62, .ireturn, 0, 0, 0), (63, .iload_n 3, 0, 0, 0), (64, .lload 5, 0, 0, 0), (66, .l2i, 0, 0, 0), (67, .isub, 0, 0, 0), (68, .istore_n 3, 0, 0, 0), (69, .iinc 4 1, 0, 0, 0), (72, .goto (-67), 5, 0, 0), (75, .ldc 73, 0, 0, (-1000004)), (77, .ireturn, 0, 0, 0)]
def bd_121 : List BE := [(0, .aload_n 0, 0, 0, 0), (1, .iload_n 1, 0, 0, 0), (2, .invokevirtual 122, 90, 0, 0), (5, .ifCond .eq 16, 21, 0, 0), (8, .iload_n 2, 0, 0, 0), (9, .iconst 0, 0, 0, 0), (10, .iconst 1, 0, 0, 0), (11, .invokestatic 66, 86, 0, 0), (14, .ifCond .eq 7, 21, 0, 0), (17, .iload_n 3, 0, 0, 0), (18, .ifCond .ge 6, 24, 0, 0), (21, .ldc 51, 0, 0, (-1000001)), (23, .ireturn, 0, 0, 0), (24, .aload_n 0, 0, 0, 0), (25, .invokevirtual 115, 111, 0, 0), (28, .aload_n 0, 0, 0, 0), (29, .bipush 91, 0, 0, 91), (31, .iload_n 2, 0, 0, 0), (32, .imul, 0, 0, 0), (33, .iload_n 1, 0, 0, 0), (34, .iadd, 0, 0, 0), (35, .iload_n 3, 0, 0, 0), (36, .invokevirtual 125, 120, 0, 0), (39, .ireturn, 0, 0, 0)]
def bd_122 : List BE := [(0, .aload_n 0, 0, 0, 0), (1, .iload_n 1, 0, 0, 0), (2, .invokevirtual 122, 90, 0, 0), (5, .ifCond .eq 25, 30, 0, 0), (8, .aload_n 0, 0, 0, 0), (9, .iload_n 2, 0, 0, 0), (10, .invokevirtual 122, 90, 0, 0), (13, .ifCond .eq 17, 30, 0, 0), (16, .iload_n 3, 0, 0, 0), (17, .iconst 0, 0, 0, 0), (18, .iconst 1, 0, 0, 0), (19, .invokestatic 66, 86, 0, 0), (22, .ifCond .eq 8, 30, 0, 0), (25, .iload_n 1, 0, 0, 0), (26, .iload_n 2, 0, 0, 0), (27, .if_icmp .ne 6, 33, 0, 0), (30, .ldc 51, 0, 0, (-1000001)), (32, .ireturn, 0, 0, 0), (33, .aload_n 0, 0, 0, 0), (34, .invokevirtual 115, 111, 0, 0), (37, .iload_n 3, 0, 0, 0), (38, .ifCond .ne 12, 50, 0, 0), (41, .aload_n 0, 0, 0, 0), (42, .iload_n 1, 0, 0, 0), (43, .iload_n 2, 0, 0, 0), (44, .invokevirtual 128, 115, 0, 0), (47, .goto 9, 56, 0, 0), (50, .aload_n 0, 0, 0, 0), (51, .iload_n 1, 0, 0, 0), (52, .iload_n 2, 0, 0, 0), (53, .invokevirtual 131, 116, 0, 0), (56, .ireturn, 0, 0, 0)]
def bd_123 : List BE := [(0, .iload_n 1, 0, 0, 0), (1, .iconst 0, 0, 0, 0), (2, .iconst 2, 0, 0, 0), (3, .invokestatic 66, 86, 0, 0), (6, .ifCond .ne 6, 12, 0, 0), (9, .ldc 51, 0, 0, (-1000001)), (11, .ireturn, 0, 0, 0), (12, .aload_n 0, 0, 0, 0), (13, .invokevirtual 115, 111, 0, 0), (16, .iload_n 1, 0, 0, 0), (17, .ifCond .ne 26, 43, 0, 0), (20, .aload_n 0, 0, 0, 0), (21, .bipush 91, 0, 0, 91), (23, .invokevirtual 118, 117, 0, 0), (26, .aload_n 0, 0, 0, 0), (27, .iconst 0, 0, 0, 0), (28, .invokevirtual 118, 117, 0, 0), (31, .iadd, 0, 0, 0), (32, .ifCond .ne 7, 39, 0, 0), (35, .iconst 1, 0, 0, 0), (36, .goto 26, 62, 0, 0), (39, .iconst 0, 0, 0, 0), (40, .goto 22, 62, 0, 0), (43, .iload_n 1, 0, 0, 0), (44, .iconst 1, 0, 0, 0), (45, .if_icmp .ne 12, 57, 0, 0), (48, .aload_n 0, 0, 0, 0), (49, .bipush 91, 0, 0, 91), (51, .invokevirtual 118, 117, 0, 0), (54, .goto 8, 62, 0, 0), (57, .aload_n 0, 0, 0, 0), (58, .iconst 0, 0, 0, 0), (59, .invokevirtual 118, 117, 0, 0), (62, .ireturn, 0, 0, 0)]
def bd_124 : List BE := [(0, .aload_n 0, 0, 0, 0), (1, .getfield 19, 6, 8, 0), (4, .bipush 91, 0, 0, 91), (6, .iload_n 1, 0, 0, 0), (7, .iadd, 0, 0, 0), (8, .laload, 0, 0, 0), (9, .aload_n 0, 0, 0, 0), (10, .getfield 19, 6, 8, 0), (13, .bipush 91, 0, 0, 91), (15, .iload_n 2, 0, 0, 0), (16, .iadd, 0, 0, 0), (17, .laload, 0, 0, 0), (18, .land, 0, 0, 0), (19, .aload_n 0, 0, 0, 0), (20, .getfield 19, 6, 8, 0), (23, .bipush 91, 0, 0, 91), (25, .iload_n 3, 0, 0, 0), (26, .iadd, 0, 0, 0), (27, .laload, 0, 0, 0), (28, .land, 0, 0, 0), (29, .aload_n 0, 0, 0, 0), (30, .getfield 23, 6, 9, 0), (33, .bipush 91, 0, 0, 91), (35, .iload_n 1, 0, 0, 0), (36, .iadd, 0, 0, 0), (37, .laload, 0, 0, 0), (38, .aload_n 0, 0, 0, 0), (39, .getfield 23, 6, 9, 0), (42, .bipush 91, 0, 0, 91), (44, .iload_n 2, 0, 0, 0), (45, .iadd, 0, 0, 0), (46, .laload, 0, 0, 0), (47, .land, 0, 0, 0), (48, .aload_n 0, 0, 0, 0), (49, .getfield 23, 6, 9, 0), (52, .bipush 91, 0, 0, 91), (54, .iload_n 3, 0, 0, 0), (55, .iadd, 0, 0, 0), (56, .laload, 0, 0, 0), (57, .land, 0, 0, 0), (58, .invokestatic 104, 112, 0, 0), (61, .ifCond .lt 7, 68, 0, 0), (64, .iconst 1, 0, 0, 0), (65, .goto 4, 69, 0, 0), (68, .iconst 0, 0, 0, 0), (69, .ireturn, 0, 0, 0)]
def bd_125 : List BE := [(0, .aload_n 0, 0, 0, 0), (1, .aload_n 0, 0, 0, 0), (2, .iload_n 1, 0, 0, 0), (3, .iload_n 2, 0, 0, 0), (4, .invokevirtual 128, 115, 0, 0), (7, .aload_n 0, 0, 0, 0), (8, .iload_n 3, 0, 0, 0), (9, .iload 4, 0, 0, 0), (11, .invokevirtual 128, 115, 0, 0), (14, .invokevirtual 131, 116, 0, 0), (17, .ireturn, 0, 0, 0)]
def bd_126 : List BE := [(0, .iconst 0, 0, 0, 0), (1, .istore 4, 0, 0, 0), (3, .ldc 73, 0, 0, (-1000004)), (5, .istore 5, 0, 0, 0), (7, .iconst 0, 0, 0, 0), (8, .istore 6, 0, 0, 0), (10, .iload 5, 0, 0, 0), (12, .ifCond .ge 55, 67, 0, 0), (15, .aload_n 0, 0, 0, 0), (16, .iload_n 1, 0, 0, 0), (17, .iload 6, 0, 0, 0), (19, .invokevirtual 125, 120, 0, 0), (22, .istore 7, 0, 0, 0), (24, .iload 7, 0, 0, 0), (26, .iload_n 3, 0, 0, 0), (27, .if_icmp .eq 14, 41, 0, 0), (30, .iload 4, 0, 0, 0), (32, .iload_n 2, 0, 0, 0), (33, .if_icmp .ne 8, 41, 0, 0), (36, .iload 7, 0, 0, 0), (38, .goto 5, 43, 0, 0), (41, .iload 5, 0, 0, 0), (43, .istore 5, 0, 0, 0), (45, .iload 4, 0, 0, 0), (47, .iload 7, 0, 0, 0), (49, .iload_n 3, 0, 0, 0), (50, .if_icmp .eq 7, 57, 0, 0), (53, .iconst 1, 0, 0, 0), (54, .goto 4, 58, 0, 0), (57, .iconst 0, 0, 0, 0), (58, .iadd, 0, 0, 0), (59, .istore 4, 0, 0, 0), (61, .iinc 6 1, 0, 0, 0), (64, .goto (-54), 10, 0, 0), (67, .iload 5, 0, 0, 0), (69, .ireturn, 0, 0, 0)]
def bd_127 : List BE := [(0, .aload_n 0, 0, 0, 0), (1, .bipush 91, 0, 0, 91), (3, .iload_n 1, 0, 0, 0), (4, .iadd, 0, 0, 0), (5, .iload_n 2, 0, 0, 0), (6, .invokevirtual 125, 120, 0, 0), (9, .istore 7, 0, 0, 0), (11, .aload_n 0, 0, 0, 0), (12, .bipush 91, 0, 0, 91), (14, .iload_n 1, 0, 0, 0), (15, .iadd, 0, 0, 0), (16, .iload_n 3, 0, 0, 0), (17, .invokevirtual 125, 120, 0, 0), (20, .istore 8, 0, 0, 0), (22, .aload_n 0, 0, 0, 0), (23, .bipush 91, 0, 0, 91), (25, .iload_n 1, 0, 0, 0), (26, .iadd, 0, 0, 0), (27, .iload 4, 0, 0, 0), (29, .invokevirtual 125, 120, 0, 0), (32, .istore 9, 0, 0, 0), (34, .aload_n 0, 0, 0, 0), (35, .iload 7, 0, 0, 0), (37, .iload 5, 0, 0, 0), (39, .iload_n 1, 0, 0, 0), (40, .invokevirtual 134, 126, 0, 0), (43, .istore 10, 0, 0, 0), (45, .aload_n 0, 0, 0, 0), (46, .iload 7, 0, 0, 0), (48, .iload 6, 0, 0, 0), (50, .iload_n 1, 0, 0, 0), (51, .invokevirtual 134, 126, 0, 0), (54, .istore 11, 0, 0, 0), (56, .aload_n 0, 0, 0, 0), (57, .iload 8, 0, 0, 0), (59, .iload 5, 0, 0, 0), (61, .iload_n 1, 0, 0, 0), (62, .invokevirtual 134, 126, 0, 0), (65, .istore 12, 0, 0, 0), (67, .aload_n 0, 0, 0, 0), (68, .iload 8, 0, 0, 0), (70, .iload 6, 0, 0, 0), (72, .iload_n 1, 0, 0, 0), (73, .invokevirtual 134, 126, 0, 0), (76, .istore 13, 0, 0, 0), (78, .aload_n 0, 0, 0, 0), (79, .iload 9, 0, 0, 0), (81, .iload 5, 0, 0, 0), (83, .iload_n 1, 0, 0, 0), (84, .invokevirtual 134, 126, 0, 0), (87, .istore 14, 0, 0, 0), (89, .aload_n 0, 0, 0, 0), (90, .iload 9, 0, 0, 0), (92, .iload 6, 0, 0, 0), (94, .iload_n 1, 0, 0, 0), (95, .invokevirtual 134, 126, 0, 0), (98, .istore 15, 0, 0, 0), (100, .aload_n 0, 0, 0, 0), (101, .iload 10, 0, 0, 0), (103, .iload 12, 0, 0, 0), (105, .iload 14, 0, 0, 0), (107, .invokevirtual 138, 124, 0, 0), (110, .ifCond .ne 16, 126, 0, 0), (113, .aload_n 0, 0, 0, 0), (114, .iload 11, 0, 0, 0), (116, .iload 13, 0, 0, 0), (118, .iload 15, 0, 0, 0), (120, .invokevirtual 138, 124, 0, 0), (123, .ifCond .eq 6, 129, 0, 0), (126, .ldc 55, 0, 0, (-1000002)), (128, .ireturn, 0, 0, 0), (129, .aload_n 0, 0, 0, 0), (130, .aload_n 0, 0, 0, 0), (131, .iload 10, 0, 0, 0), (133, .iload 12, 0, 0, 0), (135, .iload 11, 0, 0, 0), (137, .iload 13, 0, 0, 0), (139, .invokevirtual 141, 125, 0, 0), (142, .aload_n 0, 0, 0, 0), (143, .iload 10, 0, 0, 0), (145, .iload 14, 0, 0, 0), (147, .iload 11, 0, 0, 0), (149, .iload 15, 0, 0, 0), (151, .invokevirtual 141, 125, 0, 0), (154, .aload_n 0, 0, 0, 0), (155, .iload 12, 0, 0, 0), (157, .iload 14, 0, 0, 0), (159, .iload 13, 0, 0, 0), (161, .iload 15, 0, 0, 0), (163, .invokevirtual 141, 125, 0, 0), (166, .invokevirtual 138, 124, 0, 0), (169, .ifCond .eq 7, 176, 0, 0), (172, .iconst 1, 0, 0, 0), (173, .goto 4, 177, 0, 0), (176, .iconst 0, 0, 0, 0), (177, .ireturn, 0, 0, 0)]
def bd_128 : List BE := [(0, .aload_n 0, 0, 0, 0), (1, .getfield 7, 6, 0, 0), (4, .iconst 0, 0, 0, 0), (5, .iaload, 0, 0, 0), (6, .istore 7, 0, 0, 0), (8, .aload_n 0, 0, 0, 0), (9, .iload_n 1, 0, 0, 0), (10, .invokevirtual 122, 90, 0, 0), (13, .ifCond .eq 84, 97, 0, 0), (16, .iload_n 2, 0, 0, 0), (17, .iconst 0, 0, 0, 0), (18, .iload 7, 0, 0, 0), (20, .invokestatic 66, 86, 0, 0), (23, .ifCond .eq 74, 97, 0, 0), (26, .iload_n 3, 0, 0, 0), (27, .iconst 0, 0, 0, 0), (28, .iload 7, 0, 0, 0), (30, .invokestatic 66, 86, 0, 0), (33, .ifCond .eq 64, 97, 0, 0), (36, .iload 4, 0, 0, 0), (38, .iconst 0, 0, 0, 0), (39, .iload 7, 0, 0, 0), (41, .invokestatic 66, 86, 0, 0), (44, .ifCond .eq 53, 97, 0, 0), (47, .iload 5, 0, 0, 0), (49, .iconst 0, 0, 0, 0), (50, .iload 7, 0, 0, 0), (52, .iconst 1, 0, 0, 0), (53, .isub, 0, 0, 0), (54, .invokestatic 66, 86, 0, 0), (57, .ifCond .eq 40, 97, 0, 0), (60, .iload 6, 0, 0, 0), (62, .iconst 0, 0, 0, 0), (63, .iload 7, 0, 0, 0), (65, .iconst 1, 0, 0, 0), (66, .isub, 0, 0, 0), (67, .invokestatic 66, 86, 0, 0), (70, .ifCond .eq 27, 97, 0, 0), (73, .iload_n 2, 0, 0, 0), (74, .iload_n 3, 0, 0, 0), (75, .if_icmp .eq 22, 97, 0, 0), (78, .iload_n 2, 0, 0, 0), (79, .iload 4, 0, 0, 0), (81, .if_icmp .eq 16, 97, 0, 0), (84, .iload_n 3, 0, 0, 0), (85, .iload 4, 0, 0, 0), (87, .if_icmp .eq 10, 97, 0, 0), (90, .iload 5, 0, 0, 0), (92, .iload 6, 0, 0, 0), (94, .if_icmp .ne 6, 100, 0, 0), (97, .ldc 51, 0, 0, (-1000001)), (99, .ireturn, 0, 0, 0), (100, .aload_n 0, 0, 0, 0), (101, .invokevirtual 145, 118, 0, 0), (104, .ifCond .eq 19, 123, 0, 0), (107, .aload_n 0, 0, 0, 0), (108, .iload_n 1, 0, 0, 0), (109, .iload_n 2, 0, 0, 0), (110, .iload_n 3, 0, 0, 0), (111, .iload 4, 0, 0, 0), (113, .iload 5, 0, 0, 0), (115, .iload 6, 0, 0, 0), (117, .invokevirtual 149, 127, 0, 0), (120, .goto 5, 125, 0, 0), (123, .ldc 55, 0, 0, (-1000002)), (125, .ireturn, 0, 0, 0)]
def bd_129 : List BE := [(0, .aload_n 0, 0, 0, 0), (1, .iload_n 1, 0, 0, 0), (2, .invokevirtual 122, 90, 0, 0), (5, .ifCond .ne 6, 11, 0, 0), (8, .ldc 51, 0, 0, (-1000001)), (10, .ireturn, 0, 0, 0), (11, .aload_n 0, 0, 0, 0), (12, .invokevirtual 145, 118, 0, 0), (15, .ifCond .ne 6, 21, 0, 0), (18, .ldc 55, 0, 0, (-1000002)), (20, .ireturn, 0, 0, 0), (21, .iconst 0, 0, 0, 0), (22, .istore_n 2, 0, 0, 0), (23, .iconst 0, 0, 0, 0), (24, .istore_n 3, 0, 0, 0), (25, .iload_n 3, 0, 0, 0), (26, .aload_n 0, 0, 0, 0), (27, .getfield 7, 6, 0, 0), (30, .iconst 0, 0, 0, 0), (31, .iaload, 0, 0, 0), (32, .if_icmp .ge 46, 78, 0, 0), (35, .iconst 0, 0, 0, 0), (36, .istore 4, 0, 0, 0), (38, .iload 4, 0, 0, 0), (40, .iload_n 3, 0, 0, 0), (41, .if_icmp .ge 31, 72, 0, 0), (44, .iload_n 2, 0, 0, 0), (45, .aload_n 0, 0, 0, 0), (46, .iload_n 1, 0, 0, 0), (47, .iconst 0, 0, 0, 0), (48, .iconst 1, 0, 0, 0), (49, .iconst 2, 0, 0, 0), (50, .iload 4, 0, 0, 0), (52, .iload_n 3, 0, 0, 0), (53, .invokevirtual 149, 127, 0, 0), (56, .ifCond .ne 7, 63, 0, 0), (59, .iconst 1, 0, 0, 0), (60, .goto 4, 64, 0, 0), (63, .iconst 0, 0, 0, 0), (64, .iadd, 0, 0, 0), (65, .istore_n 2, 0, 0, 0), (66, .iinc 4 1, 0, 0, 0), (69, .goto (-31), 38, 0, 0), (72, .iinc 3 1, 0, 0, 0), (75, .goto (-50), 25, 0, 0), (78, .iload_n 2, 0, 0, 0), (79, .ireturn, 0, 0, 0)]
def bd_130 : List BE := [(0, .aload_n 0, 0, 0, 0), (1, .iload_n 1, 0, 0, 0), (2, .invokevirtual 122, 90, 0, 0), (5, .ifCond .eq 16, 21, 0, 0), (8, .aload_n 0, 0, 0, 0), (9, .iload_n 2, 0, 0, 0), (10, .invokevirtual 122, 90, 0, 0), (13, .ifCond .eq 8, 21, 0, 0), (16, .iload_n 1, 0, 0, 0), (17, .iload_n 2, 0, 0, 0), (18, .if_icmp .ne 6, 24, 0, 0), (21, .ldc 51, 0, 0, (-1000001)), (23, .ireturn, 0, 0, 0), (24, .aload_n 0, 0, 0, 0), (25, .getfield 7, 6, 0, 0), (28, .iconst 0, 0, 0, 0), (29, .iaload, 0, 0, 0), (30, .iconst 3, 0, 0, 0), (31, .if_icmp .lt 10, 41, 0, 0), (34, .aload_n 0, 0, 0, 0), (35, .invokevirtual 145, 118, 0, 0), (38, .ifCond .ne 6, 44, 0, 0), (41, .ldc 55, 0, 0, (-1000002)), (43, .ireturn, 0, 0, 0), (44, .aload_n 0, 0, 0, 0), (45, .iload_n 1, 0, 0, 0), (46, .iload_n 2, 0, 0, 0), (47, .invokevirtual 131, 116, 0, 0), (50, .istore_n 3, 0, 0, 0), (51, .aload_n 0, 0, 0, 0), (52, .iload_n 1, 0, 0, 0), (53, .iconst 0, 0, 0, 0), (54, .iload_n 3, 0, 0, 0), (55, .invokevirtual 134, 126, 0, 0), (58, .istore 4, 0, 0, 0), (60, .aload_n 0, 0, 0, 0), (61, .iload_n 1, 0, 0, 0), (62, .iconst 1, 0, 0, 0), (63, .iload_n 3, 0, 0, 0), (64, .invokevirtual 134, 126, 0, 0), (67, .istore 5, 0, 0, 0), (69, .aload_n 0, 0, 0, 0), (70, .iload_n 1, 0, 0, 0), (71, .iconst 2, 0, 0, 0), (72, .iload_n 3, 0, 0, 0), (73, .invokevirtual 134, 126, 0, 0), (76, .istore 6, 0, 0, 0), (78, .aload_n 0, 0, 0, 0), (79, .iload_n 2, 0, 0, 0), (80, .iconst 0, 0, 0, 0), (81, .iload_n 3, 0, 0, 0), (82, .invokevirtual 134, 126, 0, 0), (85, .istore 7, 0, 0, 0), (87, .aload_n 0, 0, 0, 0), (88, .iload_n 2, 0, 0, 0), (89, .iconst 1, 0, 0, 0), (90, .iload_n 3, 0, 0, 0), (91, .invokevirtual 134, 126, 0, 0), (94, .istore 8, 0, 0, 0), (96, .aload_n 0, 0, 0, 0), (97, .iload_n 2, 0, 0, 0), (98, .iconst 2, 0, 0, 0), (99, .iload_n 3, 0, 0, 0), (100, .invokevirtual 134, 126, 0, 0), (103, .istore 9, 0, 0, 0), (105, .aload_n 0, 0, 0, 0), (106, .aload_n 0, 0, 0, 0), (107, .iload 4, 0, 0, 0), (109, .iload 8, 0, 0, 0), (111, .iload 5, 0, 0, 0), (113, .iload 7, 0, 0, 0), (115, .invokevirtual 141, 125, 0, 0), (118, .aload_n 0, 0, 0, 0), (119, .iload 4, 0, 0, 0), (121, .iload 9, 0, 0, 0), (123, .iload 6, 0, 0, 0), (125, .iload 7, 0, 0, 0), (127, .invokevirtual 141, 125, 0, 0), (130, .aload_n 0, 0, 0, 0), (131, .iload 5, 0, 0, 0), (133, .iload 9, 0, 0, 0), (135, .iload 6, 0, 0, 0), (137, .iload 8, 0, 0, 0), (139, .invokevirtual 141, 125, 0, 0), (142, .invokevirtual 138, 124, 0, 0), (145, .ifCond .eq 7, 152, 0, 0), (148, .iconst 1, 0, 0, 0), (149, .goto 4, 153, 0, 0), (152, .iconst 0, 0, 0, 0), (153, .ireturn, 0, 0, 0)]
def bd_131 : List BE := [(0, .aload_n 0, 0, 0, 0), (1, .aload_n 0, 0, 0, 0), (2, .iload 4, 0, 0, 0), (4, .iload_n 1, 0, 0, 0), (5, .invokevirtual 128, 115, 0, 0), (8, .iload_n 2, 0, 0, 0), (9, .invokevirtual 131, 116, 0, 0), (12, .istore 6, 0, 0, 0), (14, .aload_n 0, 0, 0, 0), (15, .aload_n 0, 0, 0, 0), (16, .iload 6, 0, 0, 0), (18, .iload 5, 0, 0, 0), (20, .invokevirtual 128, 115, 0, 0), (23, .aload_n 0, 0, 0, 0), (24, .iload_n 3, 0, 0, 0), (25, .iload_n 1, 0, 0, 0), (26, .invokevirtual 128, 115, 0, 0), (29, .invokevirtual 131, 116, 0, 0), (32, .ireturn, 0, 0, 0)]
def bd_132 : List BE := [(0, .aload_n 0, 0, 0, 0), (1, .invokevirtual 36, 89, 0, 0), (4, .istore 5, 0, 0, 0), (6, .aload_n 0, 0, 0, 0), (7, .iload_n 2, 0, 0, 0), (8, .iload_n 3, 0, 0, 0), (9, .invokevirtual 128, 115, 0, 0), (12, .istore 6, 0, 0, 0), (14, .ldc 73, 0, 0, (-1000004)), (16, .istore 7, 0, 0, 0), (18, .iconst 0, 0, 0, 0), (19, .istore 8, 0, 0, 0), (21, .iload 8, 0, 0, 0), (23, .iload 5, 0, 0, 0), (25, .if_icmp .ge 67, 92, 0, 0), (28, .aload_n 0, 0, 0, 0), (29, .getfield 26, 6, 10, 0), (32, .iload 8, 0, 0, 0), (34, .iload 8, 0, 0, 0), (36, .iastore, 0, 0, 0), (37, .aload_n 0, 0, 0, 0), (38, .iload 8, 0, 0, 0), (40, .iload_n 1, 0, 0, 0), (41, .invokevirtual 97, 109, 0, 0), (44, .ifCond .ne 42, 86, 0, 0), (47, .iload 8, 0, 0, 0), (49, .iload_n 2, 0, 0, 0), (50, .if_icmp .eq 36, 86, 0, 0), (53, .aload_n 0, 0, 0, 0), (54, .iload 8, 0, 0, 0), (56, .iload 6, 0, 0, 0), (58, .invokevirtual 97, 109, 0, 0), (61, .ifCond .ne 25, 86, 0, 0), (64, .aload_n 0, 0, 0, 0), (65, .getfield 26, 6, 10, 0), (68, .iload 8, 0, 0, 0), (70, .aload_n 0, 0, 0, 0), (71, .iload 8, 0, 0, 0), (73, .iload_n 1, 0, 0, 0), (74, .iload_n 2, 0, 0, 0), (75, .iload_n 3, 0, 0, 0), (76, .iload 4, 0, 0, 0), (78, .invokevirtual 153, 131, 0, 0), (81, .iastore, 0, 0, 0), (82, .iload 8, 0, 0, 0), (84, .istore 7, 0, 0, 0), (86, .iinc 8 1, 0, 0, 0), (89, .goto (-68), 21, 0, 0), (92, .iconst 0, 0, 0, 0), (93, .istore 8, 0, 0, 0), (95, .iload 8, 0, 0, 0), (97, .iload 5, 0, 0, 0), (99, .if_icmp .ge 70, 169, 0, 0), (102, .aload_n 0, 0, 0, 0), (103, .iload 8, 0, 0, 0), (105, .iload_n 1, 0, 0, 0), (106, .invokevirtual 97, 109, 0, 0), (109, .ifCond .ne 54, 163, 0, 0), (112, .iload 8, 0, 0, 0), (114, .iload_n 2, 0, 0, 0), (115, .if_icmp .eq 48, 163, 0, 0), (118, .aload_n 0, 0, 0, 0), (119, .iload 8, 0, 0, 0), (121, .iload 6, 0, 0, 0), (123, .invokevirtual 97, 109, 0, 0), (126, .ifCond .eq 37, 163, 0, 0), (129, .aload_n 0, 0, 0, 0), (130, .getfield 26, 6, 10, 0), (133, .iload 8, 0, 0, 0), (135, .iload 7, 0, 0, 0), (137, .ifCond .ge 8, 145, 0, 0), (140, .iload 4, 0, 0, 0), (142, .goto 20, 162, 0, 0), (145, .aload_n 0, 0, 0, 0), (146, .iload 8, 0, 0, 0), (148, .iload_n 1, 0, 0, 0), (149, .iload_n 2, 0, 0, 0), (150, .iload 7, 0, 0, 0), (152, .aload_n 0, 0, 0, 0), (153, .getfield 26, 6, 10, 0), (156, .iload 7, 0, 0, 0), (158, .iaload, 0, 0, 0), (159, .invokevirtual 153, 131, 0, 0), (162, .iastore, 0, 0, 0), (163, .iinc 8 1, 0, 0, 0), (166, .goto (-71), 95, 0, 0), (169, .return_, 0, 0, 0)]
def bd_133 : List BE := [(0, .aload_n 0, 0, 0, 0), (1, .invokevirtual 36, 89, 0, 0), (4, .istore_n 3, 0, 0, 0), (5, .lconst 0, 0, 0, 0), (6, .lstore 4, 0, 0, 0), (8, .lconst 0, 0, 0, 0), (9, .lstore 6, 0, 0, 0), (11, .iconst 0, 0, 0, 0), (12, .istore 8, 0, 0, 0), (14, .iload 8, 0, 0, 0), (16, .iload_n 3, 0, 0, 0), (17, .if_icmp .ge 72, 89, 0, 0), (20, .lload 4, 0, 0, 0), (22, .aload_n 0, 0, 0, 0), (23, .getfield 26, 6, 10, 0), (26, .iload 8, 0, 0, 0), (28, .iaload, 0, 0, 0), (29, .bipush 60, 0, 0, 60), (31, .if_icmp .ge 15, 46, 0, 0), (34, .lconst 1, 0, 0, 0), (35, .aload_n 0, 0, 0, 0), (36, .getfield 26, 6, 10, 0), (39, .iload 8, 0, 0, 0), (41, .iaload, 0, 0, 0), (42, .lshl, 0, 0, 0), (43, .goto 4, 47, 0, 0), (46, .lconst 0, 0, 0, 0), (47, .lor, 0, 0, 0), (48, .lstore 4, 0, 0, 0), (50, .lload 6, 0, 0, 0), (52, .aload_n 0, 0, 0, 0), (53, .getfield 26, 6, 10, 0), (56, .iload 8, 0, 0, 0), (58, .iaload, 0, 0, 0), (59, .bipush 60, 0, 0, 60), (61, .if_icmp .ge 7, 68, 0, 0), (64, .lconst 0, 0, 0, 0), (65, .goto 15, 80, 0, 0), (68, .lconst 1, 0, 0, 0), (69, .aload_n 0, 0, 0, 0), (70, .getfield 26, 6, 10, 0), (73, .iload 8, 0, 0, 0), (75, .iaload, 0, 0, 0), (76, .bipush 60, 0, 0, 60), (78, .isub, 0, 0, 0), (79, .lshl, 0, 0, 0), (80, .lor, 0, 0, 0), (81, .lstore 6, 0, 0, 0), (83, .iinc 8 1, 0, 0, 0), (86, .goto (-72), 14, 0, 0), (89, .iconst 0, 0, 0, 0), (90, .istore 8, 0, 0, 0), (92, .iload 8, 0, 0, 0), (94, .iload_n 3, 0, 0, 0), (95, .if_icmp .ge 43, 138, 0, 0), (98, .iload 8, 0, 0, 0), (100, .bipush 60, 0, 0, 60), (102, .if_icmp .ge 13, 115, 0, 0), (105, .lload 4, 0, 0, 0), (107, .iload 8, 0, 0, 0), (109, .lshr, 0, 0, 0), (110, .lconst 1, 0, 0, 0), (111, .land, 0, 0, 0), (112, .goto 13, 125, 0, 0), (115, .lload 6, 0, 0, 0), (117, .iload 8, 0, 0, 0), (119, .bipush 60, 0, 0, 60), (121, .isub, 0, 0, 0), (122, .lshr, 0, 0, 0), (123, .lconst 1, 0, 0, 0), (124, .land, 0, 0, 0), (125, .lconst 0, 0, 0, 0), (126, .lcmp, 0, 0, 0), (127, .ifCond .ne 5, 132, 0, 0), (130, .iconst 0, 0, 0, 0), (131, .ireturn, 0, 0, 0), (132, .iinc 8 1, 0, 0, 0), (135, .goto (-43), 92, 0, 0), (138, .iconst 0, 0, 0, 0), (139, .istore 8, 0, 0, 0), (141, .iload 8, 0, 0, 0), (143, .iload_n 3, 0, 0, 0), (144, .if_icmp .ge 158, 302, 0, 0), (147, .aload_n 0, 0, 0, 0), (148, .getfield 19, 6, 8, 0), (151, .bipush 91, 0, 0, 91), (153, .aload_n 0, 0, 0, 0), (154, .getfield 26, 6, 10, 0), (157, .aload_n 0, 0, 0, 0), (158, .iload 8, 0, 0, 0), (160, .iconst 0, 0, 0, 0), (161, .invokevirtual 125, 120, 0, 0), (164, .iaload, 0, 0, 0), (165, .iadd, 0, 0, 0), (166, .laload, 0, 0, 0), (167, .lstore 9, 0, 0, 0), (169, .aload_n 0, 0, 0, 0), (170, .getfield 23, 6, 9, 0), (173, .bipush 91, 0, 0, 91), (175, .aload_n 0, 0, 0, 0), (176, .getfield 26, 6, 10, 0), (179, .aload_n 0, 0, 0, 0), (180, .iload 8, 0, 0, 0), (182, .iconst 0, 0, 0, 0), (183, .invokevirtual 125, 120, 0, 0), (186, .iaload, 0, 0, 0), (187, .iadd, 0, 0, 0), (188, .laload, 0, 0, 0), (189, .lstore 11, 0, 0, 0), (191, .iconst 1, 0, 0, 0), (192, .istore 13, 0, 0, 0), (194, .iload 13, 0, 0, 0), (196, .aload_n 0, 0, 0, 0), (197, .getfield 7, 6, 0, 0), (200, .iconst 0, 0, 0, 0), (201, .iaload, 0, 0, 0), (202, .if_icmp .gt 61, 263, 0, 0), (205, .lload 9, 0, 0, 0), (207, .aload_n 0, 0, 0, 0), (208, .getfield 19, 6, 8, 0), (211, .bipush 91, 0, 0, 91), (213, .aload_n 0, 0, 0, 0), (214, .getfield 26, 6, 10, 0), (217, .aload_n 0, 0, 0, 0), (218, .iload 8, 0, 0, 0), (220, .iload 13, 0, 0, 0), (222, .invokevirtual 125, 120, 0, 0), (225, .iaload, 0, 0, 0), (226, .iadd, 0, 0, 0), (227, .laload, 0, 0, 0), (228, .land, 0, 0, 0), (229, .lstore 9, 0, 0, 0), (231, .lload 11, 0, 0, 0), (233, .aload_n 0, 0, 0, 0), (234, .getfield 23, 6, 9, 0), (237, .bipush 91, 0, 0, 91), (239, .aload_n 0, 0, 0, 0), (240, .getfield 26, 6, 10, 0), (243, .aload_n 0, 0, 0, 0), (244, .iload 8, 0, 0, 0), (246, .iload 13, 0, 0, 0), (248, .invokevirtual 125, 120, 0, 0), (251, .iaload, 0, 0, 0), (252, .iadd, 0, 0, 0), (253, .laload, 0, 0, 0), (254, .land, 0, 0, 0), (255, .lstore 11, 0, 0, 0), (257, .iinc 13 1, 0, 0, 0), (260, .goto (-66), 194, 0, 0), (263, .lload 9, 0, 0, 0), (265, .lload 11, 0, 0, 0), (267, .invokestatic 104, 112, 0, 0), (270, .istore 13, 0, 0, 0), (272, .iload 13, 0, 0, 0), (274, .ifCond .lt 20, 294, 0, 0), (277, .aload_n 0, 0, 0, 0), (278, .iload_n 2, 0, 0, 0), (279, .iload 8, 0, 0, 0), (281, .invokevirtual 97, 109, 0, 0), (284, .ifCond .eq 12, 296, 0, 0), (287, .iload 13, 0, 0, 0), (289, .iload 8, 0, 0, 0), (291, .if_icmp .eq 5, 296, 0, 0), (294, .iconst 0, 0, 0, 0), (295, .ireturn, 0, 0, 0), (296, .iinc 8 1, 0, 0, 0), (299, .goto (-158), 141, 0, 0), (302, .aload_n 0, 0, 0, 0), (303, .aload_n 0, 0, 0, 0), (304, .getfield 26, 6, 10, 0), (307, .iload_n 2, 0, 0, 0), (308, .iaload, 0, 0, 0), (309, .iload_n 1, 0, 0, 0), (310, .invokevirtual 97, 109, 0, 0), (313, .aload_n 0, 0, 0, 0), (314, .iload_n 2, 0, 0, 0), (315, .iload_n 1, 0, 0, 0), (316, .invokevirtual 97, 109, 0, 0), (319, .if_icmp .ne 7, 326, 0, 0), (322, .iconst 1, 0, 0, 0), (323, .goto 4, 327, 0, 0), (326, .iconst 0, 0, 0, 0), (327, .ireturn, 0, 0, 0)]
def bd_134 : List BE := [(0, .aload_n 0, 0, 0, 0), (1, .iload_n 1, 0, 0, 0), (2, .invokevirtual 122, 90, 0, 0), (5, .ifCond .eq 11, 16, 0, 0), (8, .aload_n 0, 0, 0, 0), (9, .iload_n 2, 0, 0, 0), (10, .invokevirtual 122, 90, 0, 0), (13, .ifCond .ne 6, 19, 0, 0), (16, .ldc 51, 0, 0, (-1000001)), (18, .ireturn, 0, 0, 0), (19, .aload_n 0, 0, 0, 0), (20, .invokevirtual 145, 118, 0, 0), (23, .ifCond .ne 6, 29, 0, 0), (26, .ldc 55, 0, 0, (-1000002)), (28, .ireturn, 0, 0, 0), (29, .iconst 0, 0, 0, 0), (30, .istore_n 3, 0, 0, 0), (31, .aload_n 0, 0, 0, 0), (32, .iload_n 3, 0, 0, 0), (33, .iload_n 1, 0, 0, 0), (34, .invokevirtual 97, 109, 0, 0), (37, .ifCond .ne 8, 45, 0, 0), (40, .iload_n 3, 0, 0, 0), (41, .iload_n 2, 0, 0, 0), (42, .if_icmp .ne 9, 51, 0, 0), (45, .iinc 3 1, 0, 0, 0), (48, .goto (-17), 31, 0, 0), (51, .aload_n 0, 0, 0, 0), (52, .iload_n 2, 0, 0, 0), (53, .iload_n 3, 0, 0, 0), (54, .invokevirtual 128, 115, 0, 0), (57, .istore 4, 0, 0, 0), (59, .iconst 0, 0, 0, 0), (60, .istore 5, 0, 0, 0), (62, .iconst 0, 0, 0, 0), (63, .istore 6, 0, 0, 0), (65, .iload 6, 0, 0, 0), (67, .aload_n 0, 0, 0, 0), (68, .getfield 7, 6, 0, 0), (71, .iconst 0, 0, 0, 0), (72, .iaload, 0, 0, 0), (73, .if_icmp .gt 63, 136, 0, 0), (76, .aload_n 0, 0, 0, 0), (77, .iload 4, 0, 0, 0), (79, .iload 6, 0, 0, 0), (81, .invokevirtual 125, 120, 0, 0), (84, .istore 7, 0, 0, 0), (86, .iload 7, 0, 0, 0), (88, .iload_n 2, 0, 0, 0), (89, .if_icmp .eq 41, 130, 0, 0), (92, .aload_n 0, 0, 0, 0), (93, .iload 7, 0, 0, 0), (95, .iload_n 1, 0, 0, 0), (96, .invokevirtual 97, 109, 0, 0), (99, .ifCond .ne 31, 130, 0, 0), (102, .aload_n 0, 0, 0, 0), (103, .iload_n 1, 0, 0, 0), (104, .iload_n 2, 0, 0, 0), (105, .iload_n 3, 0, 0, 0), (106, .iload 7, 0, 0, 0), (108, .invokevirtual 157, 132, 0, 0), (111, .iload 5, 0, 0, 0), (113, .aload_n 0, 0, 0, 0), (114, .iload_n 1, 0, 0, 0), (115, .iload_n 2, 0, 0, 0), (116, .invokevirtual 161, 133, 0, 0), (119, .ifCond .eq 7, 126, 0, 0), (122, .iconst 1, 0, 0, 0), (123, .goto 4, 127, 0, 0), (126, .iconst 0, 0, 0, 0), (127, .iadd, 0, 0, 0), (128, .istore 5, 0, 0, 0), (130, .iinc 6 1, 0, 0, 0), (133, .goto (-68), 65, 0, 0), (136, .iload 5, 0, 0, 0), (138, .ireturn, 0, 0, 0)]
def bd_135 : List BE := [(0, .iconst 0, 0, 0, 0), (1, .istore_n 1, 0, 0, 0), (2, .iconst 0, 0, 0, 0), (3, .istore_n 2, 0, 0, 0), (4, .iload_n 2, 0, 0, 0), (5, .bipush 8, 0, 0, 8), (7, .if_icmp .ge 25, 32, 0, 0), (10, .iload_n 1, 0, 0, 0), (11, .aload_n 0, 0, 0, 0), (12, .iload_n 2, 0, 0, 0), (13, .invokevirtual 90, 105, 0, 0), (16, .ifCond .eq 7, 23, 0, 0), (19, .iconst 1, 0, 0, 0), (20, .goto 4, 24, 0, 0), (23, .iconst 0, 0, 0, 0), (24, .iadd, 0, 0, 0), (25, .istore_n 1, 0, 0, 0), (26, .iinc 2 1, 0, 0, 0), (29, .goto (-25), 4, 0, 0), (32, .iload_n 1, 0, 0, 0), (33, .ireturn, 0, 0, 0)]
def bd_136 : List BE := [(0, .aload_n 0, 0, 0, 0), (1, .invokevirtual 164, 135, 0, 0), (4, .i2f, 0, 0, 0), (5, .ldc 167, 0, 1, 1090519040), (7, .fdiv, 0, 0, 0), (8, .fstore_n 1, 0, 0, 0), (9, .fload_n 1, 0, 0, 0), (10, .invokestatic 168, 147, 0, 0), (13, .ireturn, 0, 0, 0)]
def bd_137 : List BE := [(0, .iconst 0, 0, 0, 0), (1, .istore_n 2, 0, 0, 0), (2, .iconst 0, 0, 0, 0), (3, .istore_n 3, 0, 0, 0), (4, .iload_n 3, 0, 0, 0), (5, .aload_n 0, 0, 0, 0), (6, .getfield 7, 6, 0, 0), (9, .iconst 0, 0, 0, 0), (10, .iaload, 0, 0, 0), (11, .if_icmp .ge 76, 87, 0, 0), (14, .iconst 0, 0, 0, 0), (15, .istore 4, 0, 0, 0), (17, .iload 4, 0, 0, 0), (19, .aload_n 0, 0, 0, 0), (20, .getfield 7, 6, 0, 0), (23, .iconst 0, 0, 0, 0), (24, .iaload, 0, 0, 0), (25, .if_icmp .ge 56, 81, 0, 0), (28, .iload_n 2, 0, 0, 0), (29, .iload_n 1, 0, 0, 0), (30, .ifCond .eq 21, 51, 0, 0), (33, .aload_n 0, 0, 0, 0), (34, .iload_n 3, 0, 0, 0), (35, .iload 4, 0, 0, 0), (37, .invokevirtual 60, 94, 0, 0), (40, .ifCond .ne 7, 47, 0, 0), (43, .iconst 1, 0, 0, 0), (44, .goto 29, 73, 0, 0), (47, .iconst 0, 0, 0, 0), (48, .goto 25, 73, 0, 0), (51, .aload_n 0, 0, 0, 0), (52, .iload_n 3, 0, 0, 0), (53, .iload 4, 0, 0, 0), (55, .invokevirtual 60, 94, 0, 0), (58, .aload_n 0, 0, 0, 0), (59, .iload_n 3, 0, 0, 0), (60, .iload 4, 0, 0, 0), (62, .invokevirtual 44, 93, 0, 0), (65, .if_icmp .eq 7, 72, 0, 0), (68, .iconst 1, 0, 0, 0), (69, .goto 4, 73, 0, 0), (72, .iconst 0, 0, 0, 0), (73, .iadd, 0, 0, 0), (74, .istore_n 2, 0, 0, 0), (75, .iinc 4 1, 0, 0, 0), (78, .goto (-61), 17, 0, 0), (81, .iinc 3 1, 0, 0, 0), (84, .goto (-80), 4, 0, 0), (87, .iload_n 2, 0, 0, 0), (88, .ireturn, 0, 0, 0)]
def bd_138 : List BE := [(0, .iload_n 1, 0, 0, 0), (1, .tableswitch 73 0 5 #[39, 46, 51, 57, 63, 68], 0, 0, 0), (40, .aload_n 0, 0, 0, 0), (41, .getfield 7, 6, 0, 0), (44, .iconst 0, 0, 0, 0), (45, .iaload, 0, 0, 0), (46, .ireturn, 0, 0, 0), (47, .aload_n 0, 0, 0, 0), (48, .invokevirtual 36, 89, 0, 0), (51, .ireturn, 0, 0, 0), (52, .aload_n 0, 0, 0, 0), (53, .iconst 0, 0, 0, 0), (54, .invokevirtual 174, 137, 0, 0), (57, .ireturn, 0, 0, 0), (58, .aload_n 0, 0, 0, 0), (59, .iconst 1, 0, 0, 0), (60, .invokevirtual 174, 137, 0, 0), (63, .ireturn, 0, 0, 0), (64, .aload_n 0, 0, 0, 0), (65, .getfield 32, 6, 2, 0), (68, .ireturn, 0, 0, 0), (69, .aload_n 0, 0, 0, 0), (70, .getfield 178, 6, 4, 0), (73, .ireturn, 0, 0, 0), (74, .ldc 51, 0, 0, (-1000001)), (76, .ireturn, 0, 0, 0)]
def bd_139 : List BE := [(0, .aload_n 0, 0, 0, 0), (1, .getfield 32, 6, 2, 0), (4, .ifCond .ne 6, 10, 0, 0), (7, .ldc 55, 0, 0, (-1000002)), (9, .ireturn, 0, 0, 0), (10, .aload_n 0, 0, 0, 0), (11, .dup, 0, 0, 0), (12, .getfield 32, 6, 2, 0), (15, .iconst 1, 0, 0, 0), (16, .isub, 0, 0, 0), (17, .putfield 32, 6, 2, 0), (20, .iconst 0, 0, 0, 0), (21, .istore_n 1, 0, 0, 0), (22, .iload_n 1, 0, 0, 0), (23, .bipush 82, 0, 0, 82), (25, .if_icmp .ge 29, 54, 0, 0), (28, .aload_n 0, 0, 0, 0), (29, .getfield 7, 6, 0, 0), (32, .iload_n 1, 0, 0, 0), (33, .aload_n 0, 0, 0, 0), (34, .getfield 13, 6, 1, 0), (37, .bipush 82, 0, 0, 82), (39, .aload_n 0, 0, 0, 0), (40, .getfield 32, 6, 2, 0), (43, .imul, 0, 0, 0), (44, .iload_n 1, 0, 0, 0), (45, .iadd, 0, 0, 0), (46, .iaload, 0, 0, 0), (47, .iastore, 0, 0, 0), (48, .iinc 1 1, 0, 0, 0), (51, .goto (-29), 22, 0, 0), (54, .aload_n 0, 0, 0, 0), (55, .getfield 32, 6, 2, 0), (58, .ireturn, 0, 0, 0)]
def bd_140 : List BE := [(0, .iload_n 1, 0, 0, 0), (1, .bipush 32, 0, 0, 32), (3, .bipush 126, 0, 0, 126), (5, .invokestatic 66, 86, 0, 0), (8, .ifCond .ne 6, 14, 0, 0), (11, .ldc 51, 0, 0, (-1000001)), (13, .ireturn, 0, 0, 0), (14, .aload_n 0, 0, 0, 0), (15, .getfield 178, 6, 4, 0), (18, .bipush 60, 0, 0, 60), (20, .if_icmp .ne 6, 26, 0, 0), (23, .ldc 181, 0, 0, (-1000003)), (25, .ireturn, 0, 0, 0), (26, .aload_n 0, 0, 0, 0), (27, .getfield 16, 6, 3, 0), (30, .aload_n 0, 0, 0, 0), (31, .getfield 178, 6, 4, 0), (34, .iload_n 1, 0, 0, 0), (35, .iastore, 0, 0, 0), (36, .aload_n 0, 0, 0, 0), (37, .dup, 0, 0, 0), (38, .getfield 178, 6, 4, 0), (41, .iconst 1, 0, 0, 0), (42, .iadd, 0, 0, 0), (43, .putfield 178, 6, 4, 0), (46, .aload_n 0, 0, 0, 0), (47, .getfield 178, 6, 4, 0), (50, .ireturn, 0, 0, 0)]
def bd_141 : List BE := [(0, .aload_n 0, 0, 0, 0), (1, .getfield 178, 6, 4, 0), (4, .istore_n 1, 0, 0, 0), (5, .aload_n 0, 0, 0, 0), (6, .iconst 0, 0, 0, 0), (7, .putfield 178, 6, 4, 0), (10, .iload_n 1, 0, 0, 0), (11, .ireturn, 0, 0, 0)]
def bd_142 : List BE := [(0, .iload_n 1, 0, 0, 0), (1, .aload_n 0, 0, 0, 0), (2, .getfield 178, 6, 4, 0), (5, .if_icmp .ge 21, 26, 0, 0), (8, .aload_n 0, 0, 0, 0), (9, .getfield 16, 6, 3, 0), (12, .iload_n 1, 0, 0, 0), (13, .iaload, 0, 0, 0), (14, .iload_n 2, 0, 0, 0), (15, .iload_n 3, 0, 0, 0), (16, .invokestatic 66, 86, 0, 0), (19, .ifCond .eq 7, 26, 0, 0), (22, .iconst 1, 0, 0, 0), (23, .goto 4, 27, 0, 0), (26, .iconst 0, 0, 0, 0), (27, .ireturn, 0, 0, 0)]
def bd_143 : List BE := [(0, .aload_n 0, 0, 0, 0), (1, .iconst 0, 0, 0, 0), (2, .putfield 182, 6, 11, 0), (5, .aload_n 0, 0, 0, 0), (6, .getfield 182, 6, 11, 0), (9, .aload_n 0, 0, 0, 0), (10, .getfield 178, 6, 4, 0), (13, .if_icmp .ge 223, 236, 0, 0), (16, .aload_n 0, 0, 0, 0), (17, .aload_n 0, 0, 0, 0), (18, .getfield 182, 6, 11, 0), (21, .bipush 48, 0, 0, 48), (23, .bipush 57, 0, 0, 57), (25, .invokevirtual 185, 142, 0, 0), (28, .ifCond .eq 41, 69, 0, 0), (31, .aload_n 0, 0, 0, 0), (32, .aload_n 0, 0, 0, 0), (33, .getfield 182, 6, 11, 0), (36, .iconst 1, 0, 0, 0), (37, .iadd, 0, 0, 0), (38, .bipush 42, 0, 0, 42), (40, .bipush 42, 0, 0, 42), (42, .invokevirtual 185, 142, 0, 0), (45, .ifCond .eq 24, 69, 0, 0), (48, .aload_n 0, 0, 0, 0), (49, .aload_n 0, 0, 0, 0), (50, .getfield 182, 6, 11, 0), (53, .iconst 2, 0, 0, 0), (54, .iadd, 0, 0, 0), (55, .bipush 48, 0, 0, 48), (57, .bipush 57, 0, 0, 57), (59, .invokevirtual 185, 142, 0, 0), (62, .ifCond .eq 7, 69, 0, 0), (65, .iconst 1, 0, 0, 0), (66, .goto 4, 70, 0, 0), (69, .iconst 0, 0, 0, 0), (70, .istore_n 1, 0, 0, 0), (71, .iload_n 1, 0, 0, 0), (72, .ifCond .eq 58, 130, 0, 0), (75, .aload_n 0, 0, 0, 0), (76, .aload_n 0, 0, 0, 0), (77, .getfield 182, 6, 11, 0), (80, .iconst 3, 0, 0, 0), (81, .iadd, 0, 0, 0), (82, .bipush 61, 0, 0, 61), (84, .bipush 61, 0, 0, 61), (86, .invokevirtual 185, 142, 0, 0), (89, .ifCond .eq 41, 130, 0, 0), (92, .aload_n 0, 0, 0, 0), (93, .aload_n 0, 0, 0, 0), (94, .getfield 182, 6, 11, 0), (97, .iconst 4, 0, 0, 0), (98, .iadd, 0, 0, 0), (99, .bipush 48, 0, 0, 48), (101, .bipush 57, 0, 0, 57), (103, .invokevirtual 185, 142, 0, 0), (106, .ifCond .eq 24, 130, 0, 0), (109, .aload_n 0, 0, 0, 0), (110, .aload_n 0, 0, 0, 0), (111, .getfield 182, 6, 11, 0), (114, .iconst 5, 0, 0, 0), (115, .iadd, 0, 0, 0), (116, .bipush 59, 0, 0, 59), (118, .bipush 59, 0, 0, 59), (120, .invokevirtual 185, 142, 0, 0), (123, .ifCond .eq 7, 130, 0, 0), (126, .iconst 1, 0, 0, 0), (127, .goto 4, 131, 0, 0), (130, .iconst 0, 0, 0, 0), (131, .istore_n 1, 0, 0, 0), (132, .aload_n 0, 0, 0, 0), (133, .iload_n 1, 0, 0, 0), (134, .ifCond .eq 7, 141, 0, 0), (137, .iconst 2, 0, 0, 0), (138, .goto 4, 142, 0, 0), (141, .iconst 1, 0, 0, 0), (142, .putfield 188, 6, 12, 0), (145, .iload_n 1, 0, 0, 0), (146, .ifCond .eq 68, 214, 0, 0), (149, .aload_n 0, 0, 0, 0), (150, .aload_n 0, 0, 0, 0), (151, .getfield 16, 6, 3, 0), (154, .aload_n 0, 0, 0, 0), (155, .getfield 182, 6, 11, 0), (158, .iaload, 0, 0, 0), (159, .bipush 48, 0, 0, 48), (161, .isub, 0, 0, 0), (162, .invokevirtual 63, 88, 0, 0), (165, .ifCond .eq 49, 214, 0, 0), (168, .aload_n 0, 0, 0, 0), (169, .aload_n 0, 0, 0, 0), (170, .getfield 16, 6, 3, 0), (173, .aload_n 0, 0, 0, 0), (174, .getfield 182, 6, 11, 0), (177, .iconst 2, 0, 0, 0), (178, .iadd, 0, 0, 0), (179, .iaload, 0, 0, 0), (180, .bipush 48, 0, 0, 48), (182, .isub, 0, 0, 0), (183, .invokevirtual 63, 88, 0, 0), (186, .ifCond .eq 28, 214, 0, 0), (189, .aload_n 0, 0, 0, 0), (190, .aload_n 0, 0, 0, 0), (191, .getfield 16, 6, 3, 0), (194, .aload_n 0, 0, 0, 0), (195, .getfield 182, 6, 11, 0), (198, .iconst 4, 0, 0, 0), (199, .iadd, 0, 0, 0), (200, .iaload, 0, 0, 0), (201, .bipush 48, 0, 0, 48), (203, .isub, 0, 0, 0), (204, .invokevirtual 63, 88, 0, 0), (207, .ifCond .eq 7, 214, 0, 0), (210, .iconst 1, 0, 0, 0), (211, .goto 4, 215, 0, 0), (214, .iconst 0, 0, 0, 0), (215, .istore_n 1, 0, 0, 0), (216, .iload_n 1, 0, 0, 0), (217, .ifCond .ne 5, 222, 0, 0), (220, .iconst 0, 0, 0, 0), (221, .ireturn, 0, 0, 0), (222, .aload_n 0, 0, 0, 0), (223, .dup, 0, 0, 0), (224, .getfield 182, 6, 11, 0), (227, .bipush 6, 0, 0, 6), (229, .iadd, 0, 0, 0), (230, .putfield 182, 6, 11, 0), (233, .goto (-228), 5, 0, 0), (236, .iconst 1, 0, 0, 0), (237, .ireturn, 0, 0, 0)]
def bd_144 : List BE := [(0, .iload_n 1, 0, 0, 0), (1, .iconst 0, 0, 0, 0), (2, .iconst 1, 0, 0, 0), (3, .invokestatic 66, 86, 0, 0), (6, .ifCond .ne 6, 12, 0, 0), (9, .ldc 51, 0, 0, (-1000001)), (11, .ireturn, 0, 0, 0), (12, .aload_n 0, 0, 0, 0), (13, .invokevirtual 191, 143, 0, 0), (16, .ifCond .eq 8, 24, 0, 0), (19, .ldc 73, 0, 0, (-1000004)), (21, .goto 18, 39, 0, 0), (24, .iload_n 1, 0, 0, 0), (25, .ifCond .ne 10, 35, 0, 0), (28, .aload_n 0, 0, 0, 0), (29, .getfield 182, 6, 11, 0), (32, .goto 7, 39, 0, 0), (35, .aload_n 0, 0, 0, 0), (36, .getfield 188, 6, 12, 0), (39, .ireturn, 0, 0, 0)]
def bd_145 : List BE := [(0, .aload_n 0, 0, 0, 0), (1, .invokevirtual 191, 143, 0, 0), (4, .ifCond .ne 6, 10, 0, 0), (7, .ldc 55, 0, 0, (-1000002)), (9, .ireturn, 0, 0, 0), (10, .aload_n 0, 0, 0, 0), (11, .invokevirtual 52, 87, 0, 0), (14, .iconst 0, 0, 0, 0), (15, .istore_n 1, 0, 0, 0), (16, .iload_n 1, 0, 0, 0), (17, .aload_n 0, 0, 0, 0), (18, .getfield 178, 6, 4, 0), (21, .if_icmp .ge 44, 65, 0, 0), (24, .aload_n 0, 0, 0, 0), (25, .aload_n 0, 0, 0, 0), (26, .getfield 16, 6, 3, 0), (29, .iload_n 1, 0, 0, 0), (30, .iaload, 0, 0, 0), (31, .bipush 48, 0, 0, 48), (33, .isub, 0, 0, 0), (34, .aload_n 0, 0, 0, 0), (35, .getfield 16, 6, 3, 0), (38, .iload_n 1, 0, 0, 0), (39, .iconst 2, 0, 0, 0), (40, .iadd, 0, 0, 0), (41, .iaload, 0, 0, 0), (42, .bipush 48, 0, 0, 48), (44, .isub, 0, 0, 0), (45, .aload_n 0, 0, 0, 0), (46, .getfield 16, 6, 3, 0), (49, .iload_n 1, 0, 0, 0), (50, .iconst 4, 0, 0, 0), (51, .iadd, 0, 0, 0), (52, .iaload, 0, 0, 0), (53, .bipush 48, 0, 0, 48), (55, .isub, 0, 0, 0), (56, .invokevirtual 47, 95, 0, 0), (59, .iinc 1 6, 0, 0, 0), (62, .goto (-46), 16, 0, 0), (65, .aload_n 0, 0, 0, 0), (66, .getfield 178, 6, 4, 0), (69, .bipush 6, 0, 0, 6), (71, .idiv, 0, 0, 0), (72, .ireturn, 0, 0, 0)]
def bd_146 : List BE := [(0, .fload_n 0, 0, 0, 0), (1, .fload_n 0, 0, 0, 0), (2, .fcmp .l, 0, 0, 0), (3, .ifCond .eq 7, 10, 0, 0), (6, .iconst 1, 0, 0, 0), (7, .goto 4, 11, 0, 0), (10, .iconst 0, 0, 0, 0), (11, .ireturn, 0, 0, 0)]
def bd_147 : List BE := [(0, .fload_n 0, 0, 0, 0), (1, .invokestatic 59, 146, 0, 0), (4, .ifCond .ne 8, 12, 0, 0), (7, .fload_n 0, 0, 0, 0), (8, .invokestatic 74, 1002, 0, 0), (11, .ireturn, 0, 0, 0), (12, .ldc 77, 0, 0, 2143289344), (14, .ireturn, 0, 0, 0)]
def bd_148 : List BE := [(0, .iload_n 0, 0, 0, 0), (1, .iload_n 0, 0, 0, 0), (2, .iconst 1, 0, 0, 0), (3, .iushr, 0, 0, 0), (4, .ldc_w 265, 0, 0, 1431655765), (7, .iand, 0, 0, 0), (8, .isub, 0, 0, 0), (9, .istore_n 0, 0, 0, 0), (10, .iload_n 0, 0, 0, 0), (11, .ldc_w 266, 0, 0, 858993459), (14, .iand, 0, 0, 0), (15, .iload_n 0, 0, 0, 0), (16, .iconst 2, 0, 0, 0), (17, .iushr, 0, 0, 0), (18, .ldc_w 266, 0, 0, 858993459), (21, .iand, 0, 0, 0), (22, .iadd, 0, 0, 0), (23, .istore_n 0, 0, 0, 0), (24, .iload_n 0, 0, 0, 0), (25, .iload_n 0, 0, 0, 0), (26, .iconst 4, 0, 0, 0), (27, .iushr, 0, 0, 0), (28, .iadd, 0, 0, 0), (29, .ldc_w 267, 0, 0, 252645135), (32, .iand, 0, 0, 0), (33, .istore_n 0, 0, 0, 0), (34, .iload_n 0, 0, 0, 0), (35, .iload_n 0, 0, 0, 0), (36, .bipush 8, 0, 0, 8), (38, .iushr, 0, 0, 0), (39, .iadd, 0, 0, 0), (40, .istore_n 0, 0, 0, 0), (41, .iload_n 0, 0, 0, 0), (42, .iload_n 0, 0, 0, 0), (43, .bipush 16, 0, 0, 16), (45, .iushr, 0, 0, 0), (46, .iadd, 0, 0, 0), (47, .istore_n 0, 0, 0, 0), (48, .iload_n 0, 0, 0, 0), (49, .bipush 63, 0, 0, 63), (51, .iand, 0, 0, 0), (52, .ireturn, 0, 0, 0)]
def m_bodies : List (List BE) := [bd_0, bd_1, bd_2, bd_3, bd_4, bd_5, bd_6, bd_7, bd_8, bd_9, bd_10, bd_11, bd_12, bd_13, bd_14, bd_15, bd_16, bd_17, bd_18, bd_19, bd_20, bd_21, bd_22, bd_23, bd_24, bd_25, bd_26, bd_27, bd_28, bd_29, bd_30, bd_31, bd_32, bd_33, bd_34, bd_35, bd_36, bd_37, bd_38, bd_39, bd_40, bd_41, bd_42, bd_43, bd_44, bd_45, bd_46, bd_47, bd_48, bd_49, bd_50, bd_51, bd_52, bd_53, bd_54, bd_55, bd_56, bd_57, bd_58, bd_59, bd_60, bd_61, bd_62, bd_63, bd_64, bd_65, bd_66, bd_67, bd_68, bd_69, bd_70, bd_71, bd_72, bd_73, bd_74, bd_75, bd_76, bd_77, bd_78, bd_79, bd_80, bd_81, bd_82, bd_83, bd_84, bd_85, bd_86, bd_87, bd_88, bd_89, bd_90, bd_91, bd_92, bd_93, bd_94, bd_95, bd_96, bd_97, bd_98, bd_99, bd_100, bd_101, bd_102, bd_103, bd_104, bd_105, bd_106, bd_107, bd_108, bd_109, bd_110, bd_111, bd_112, bd_113, bd_114, bd_115, bd_116, bd_117, bd_118, bd_119, bd_120, bd_121, bd_122, bd_123, bd_124, bd_125, bd_126, bd_127, bd_128, bd_129, bd_130, bd_131, bd_132, bd_133, bd_134, bd_135, bd_136, bd_137, bd_138, bd_139, bd_140, bd_141, bd_142, bd_143, bd_144, bd_145, bd_146, bd_147, bd_148]
def m_fetch (mi pc : Nat) : Option BE := (m_bodies.getD mi []).find? (fun e => e.1 == pc)
def m_flds : List (Nat × Nat × Nat × Nat) := [(0, 9, 0, 0), (0, 15, 0, 1), (0, 18, 0, 2), (0, 25, 3, 0), (0, 30, 3, 1), (1, 9, 3, 0), (2, 9, 1, 0), (2, 15, 1, 1), (2, 18, 1, 2), (2, 29, 2, 0), (2, 35, 3, 0), (2, 41, 1, 4), (2, 60, 1, 3), (2, 73, 1, 5), (3, 12, 2, 0), (3, 18, 3, 0), (4, 9, 3, 1), (4, 19, 3, 0), (5, 9, 4, 0), (5, 15, 4, 1), (6, 12, 5, 0), (6, 16, 2, 0), (6, 20, 5, 1), (6, 24, 5, 2), (6, 31, 5, 3), (6, 38, 5, 4), (6, 51, 3, 0), (6, 161, 0, 2), (6, 164, 4, 1), (7, 7, 6, 0), (7, 13, 6, 1), (7, 16, 6, 3), (7, 19, 6, 8), (7, 23, 6, 9), (7, 26, 6, 10), (7, 32, 6, 2), (7, 81, 6, 5), (7, 84, 6, 6), (7, 87, 6, 7), (7, 178, 6, 4), (7, 182, 6, 11), (7, 188, 6, 12)]
def m_mths : List (Nat × Nat × Nat) := [(11, 9, 58), (11, 12, 85), (11, 13, 59), (11, 17, 97), (11, 18, 60), (11, 22, 99), (11, 23, 61), (11, 27, 100), (11, 28, 62), (11, 31, 101), (11, 32, 63), (11, 35, 102), (11, 36, 64), (11, 40, 106), (11, 41, 65), (11, 44, 108), (11, 45, 66), (11, 48, 119), (11, 49, 67), (11, 52, 121), (11, 53, 68), (11, 56, 122), (11, 57, 69), (11, 60, 123), (11, 61, 70), (11, 65, 128), (11, 66, 71), (11, 69, 129), (11, 70, 72), (11, 73, 130), (11, 74, 73), (11, 77, 134), (11, 78, 74), (11, 81, 136), (11, 82, 75), (11, 85, 138), (11, 86, 76), (11, 89, 139), (11, 90, 77), (11, 93, 140), (11, 94, 78), (11, 97, 141), (11, 98, 79), (11, 101, 144), (11, 102, 80), (11, 105, 145), (0, 3, 1000), (0, 22, 4), (0, 31, 1001), (1, 15, 7), (1, 21, 40), (1, 25, 38), (1, 28, 11), (1, 32, 9), (1, 35, 41), (1, 39, 39), (1, 42, 148), (2, 3, 1000), (2, 21, 14), (2, 25, 15), (2, 44, 27), (2, 48, 17), (2, 52, 19), (2, 56, 23), (2, 63, 26), (2, 67, 29), (2, 70, 16), (2, 76, 30), (2, 79, 20), (2, 83, 18), (2, 86, 21), (3, 3, 1000), (3, 11, 36), (3, 22, 10), (3, 28, 24), (3, 32, 40), (3, 36, 38), (3, 39, 39), (3, 42, 28), (3, 45, 26), (3, 49, 27), (3, 52, 29), (3, 55, 30), (3, 58, 31), (3, 62, 33), (3, 67, 32), (4, 3, 1000), (4, 15, 44), (4, 23, 40), (4, 27, 41), (4, 31, 50), (4, 35, 43), (4, 38, 49), (5, 3, 1000), (5, 19, 54), (5, 23, 56), (5, 27, 57), (5, 30, 37), (5, 36, 43), (6, 3, 1000), (6, 11, 22), (6, 23, 1), (6, 30, 51), (6, 37, 12), (6, 42, 81), (6, 47, 2), (6, 57, 44), (6, 62, 45), (6, 66, 37), (6, 69, 40), (6, 73, 43), (6, 77, 46), (6, 80, 38), (6, 83, 39), (6, 86, 42), (6, 90, 83), (6, 94, 5), (6, 101, 6), (6, 104, 8), (6, 108, 24), (6, 109, 26), (6, 113, 27), (6, 116, 28), (6, 119, 29), (6, 122, 30), (6, 125, 25), (6, 129, 10), (6, 133, 82), (6, 136, 34), (6, 140, 35), (6, 143, 13), (6, 148, 84), (6, 152, 23), (6, 155, 47), (6, 158, 48), (6, 167, 3), (6, 170, 52), (6, 175, 53), (6, 179, 54), (6, 183, 55), (7, 1, 1000), (7, 29, 96), (7, 36, 89), (7, 40, 91), (7, 44, 93), (7, 47, 95), (7, 52, 87), (7, 56, 98), (7, 60, 94), (7, 63, 88), (7, 66, 86), (7, 70, 92), (7, 74, 103), (7, 77, 104), (7, 90, 105), (7, 93, 107), (7, 97, 109), (7, 100, 110), (7, 104, 112), (7, 108, 114), (7, 111, 113), (7, 115, 111), (7, 118, 117), (7, 122, 90), (7, 125, 120), (7, 128, 115), (7, 131, 116), (7, 134, 126), (7, 138, 124), (7, 141, 125), (7, 145, 118), (7, 149, 127), (7, 153, 131), (7, 157, 132), (7, 161, 133), (7, 164, 135), (7, 168, 147), (7, 174, 137), (7, 185, 142), (7, 191, 143), (8, 59, 146), (8, 74, 1002)]
def m_csts : List (Nat × Nat × Nat × Int) := [(3, 66, 0, -1000002), (6, 46, 0, -1000001), (6, 61, 0, -1000002), (6, 100, 0, -1000004), (6, 147, 1, 1090519040), (6, 174, 0, -1000003), (6, 186, 1, 1258291200), (7, 51, 0, -1000001), (7, 55, 0, -1000002), (7, 73, 0, -1000004), (7, 167, 1, 1090519040), (7, 181, 0, -1000003), (8, 77, 0, 2143289344), (9, 265, 0, 1431655765), (9, 266, 0, 858993459), (9, 267, 0, 252645135)]
def m_clss : List (Nat × Nat × Nat) := [(11, 7, 5), (11, 10, 6), (3, 9, 3), (6, 9, 2), (6, 21, 0), (6, 28, 4), (6, 35, 1)]
def lw_g : List Cond := lw_tbl.filter goodWord
theorem m_in {w : Cond} (i : Nat) (h : lw_tbl[i]? = some w) (g : goodWord w = true) : w ∈ lw_g := List.mem_filter.mpr ⟨List.mem_of_getElem? h, g⟩
def m_fldw (q : Nat × Nat × Nat × Nat) : Prop := ∃ r : vw_C, vwCl[q.2.2.1]? = some r ∧ q.2.2.2 < r.2.2 ∧ Cond.fieldLink (m_cn.getD q.1 "") q.2.1 (r.2.1 q.2.2.2).1 (r.2.1 q.2.2.2).2.1 (r.2.1 q.2.2.2).2.2.1 ∈ lw_g
theorem m_fw0 : m_fldw (0, 9, 0, 0) := ⟨(RX0, TX0, 3), rfl, by decide, m_in 119 (by decide +kernel) (by decide +kernel)⟩
theorem m_fw1 : m_fldw (0, 15, 0, 1) := ⟨(RX0, TX0, 3), rfl, by decide, m_in 120 (by decide +kernel) (by decide +kernel)⟩
theorem m_fw2 : m_fldw (0, 18, 0, 2) := ⟨(RX0, TX0, 3), rfl, by decide, m_in 121 (by decide +kernel) (by decide +kernel)⟩
theorem m_fw3 : m_fldw (0, 25, 3, 0) := ⟨(RX4, TX4, 2), rfl, by decide, m_in 98 (by decide +kernel) (by decide +kernel)⟩
theorem m_fw4 : m_fldw (0, 30, 3, 1) := ⟨(RX4, TX4, 2), rfl, by decide, m_in 100 (by decide +kernel) (by decide +kernel)⟩
theorem m_fw5 : m_fldw (1, 9, 3, 0) := ⟨(RX4, TX4, 2), rfl, by decide, m_in 95 (by decide +kernel) (by decide +kernel)⟩
theorem m_fw6 : m_fldw (2, 9, 1, 0) := ⟨(RX2, TX2, 6), rfl, by decide, m_in 151 (by decide +kernel) (by decide +kernel)⟩
theorem m_fw7 : m_fldw (2, 15, 1, 1) := ⟨(RX2, TX2, 6), rfl, by decide, m_in 152 (by decide +kernel) (by decide +kernel)⟩
theorem m_fw8 : m_fldw (2, 18, 1, 2) := ⟨(RX2, TX2, 6), rfl, by decide, m_in 153 (by decide +kernel) (by decide +kernel)⟩
theorem m_fw9 : m_fldw (2, 29, 2, 0) := ⟨(RX3, TX3, 1), rfl, by decide, m_in 109 (by decide +kernel) (by decide +kernel)⟩
theorem m_fw10 : m_fldw (2, 35, 3, 0) := ⟨(RX4, TX4, 2), rfl, by decide, m_in 97 (by decide +kernel) (by decide +kernel)⟩
theorem m_fw11 : m_fldw (2, 41, 1, 4) := ⟨(RX2, TX2, 6), rfl, by decide, m_in 155 (by decide +kernel) (by decide +kernel)⟩
theorem m_fw12 : m_fldw (2, 60, 1, 3) := ⟨(RX2, TX2, 6), rfl, by decide, m_in 154 (by decide +kernel) (by decide +kernel)⟩
theorem m_fw13 : m_fldw (2, 73, 1, 5) := ⟨(RX2, TX2, 6), rfl, by decide, m_in 156 (by decide +kernel) (by decide +kernel)⟩
theorem m_fw14 : m_fldw (3, 12, 2, 0) := ⟨(RX3, TX3, 1), rfl, by decide, m_in 107 (by decide +kernel) (by decide +kernel)⟩
theorem m_fw15 : m_fldw (3, 18, 3, 0) := ⟨(RX4, TX4, 2), rfl, by decide, m_in 93 (by decide +kernel) (by decide +kernel)⟩
theorem m_fw16 : m_fldw (4, 9, 3, 1) := ⟨(RX4, TX4, 2), rfl, by decide, m_in 99 (by decide +kernel) (by decide +kernel)⟩
theorem m_fw17 : m_fldw (4, 19, 3, 0) := ⟨(RX4, TX4, 2), rfl, by decide, m_in 94 (by decide +kernel) (by decide +kernel)⟩
theorem m_fw18 : m_fldw (5, 9, 4, 0) := ⟨(RX5, TX5, 2), rfl, by decide, m_in 136 (by decide +kernel) (by decide +kernel)⟩
theorem m_fw19 : m_fldw (5, 15, 4, 1) := ⟨(RX5, TX5, 2), rfl, by decide, m_in 137 (by decide +kernel) (by decide +kernel)⟩
theorem m_fw20 : m_fldw (6, 12, 5, 0) := ⟨(RX6, TX6, 5), rfl, by decide, m_in 170 (by decide +kernel) (by decide +kernel)⟩
theorem m_fw21 : m_fldw (6, 16, 2, 0) := ⟨(RX3, TX3, 1), rfl, by decide, m_in 108 (by decide +kernel) (by decide +kernel)⟩
theorem m_fw22 : m_fldw (6, 20, 5, 1) := ⟨(RX6, TX6, 5), rfl, by decide, m_in 171 (by decide +kernel) (by decide +kernel)⟩
theorem m_fw23 : m_fldw (6, 24, 5, 2) := ⟨(RX6, TX6, 5), rfl, by decide, m_in 172 (by decide +kernel) (by decide +kernel)⟩
theorem m_fw24 : m_fldw (6, 31, 5, 3) := ⟨(RX6, TX6, 5), rfl, by decide, m_in 173 (by decide +kernel) (by decide +kernel)⟩
theorem m_fw25 : m_fldw (6, 38, 5, 4) := ⟨(RX6, TX6, 5), rfl, by decide, m_in 174 (by decide +kernel) (by decide +kernel)⟩
theorem m_fw26 : m_fldw (6, 51, 3, 0) := ⟨(RX4, TX4, 2), rfl, by decide, m_in 96 (by decide +kernel) (by decide +kernel)⟩
theorem m_fw27 : m_fldw (6, 161, 0, 2) := ⟨(RX0, TX0, 3), rfl, by decide, m_in 122 (by decide +kernel) (by decide +kernel)⟩
theorem m_fw28 : m_fldw (6, 164, 4, 1) := ⟨(RX5, TX5, 2), rfl, by decide, m_in 138 (by decide +kernel) (by decide +kernel)⟩
theorem m_fw29 : m_fldw (7, 7, 6, 0) := ⟨(RX7, TX7, 13), rfl, by decide, m_in 534 (by decide +kernel) (by decide +kernel)⟩
theorem m_fw30 : m_fldw (7, 13, 6, 1) := ⟨(RX7, TX7, 13), rfl, by decide, m_in 535 (by decide +kernel) (by decide +kernel)⟩
theorem m_fw31 : m_fldw (7, 16, 6, 3) := ⟨(RX7, TX7, 13), rfl, by decide, m_in 537 (by decide +kernel) (by decide +kernel)⟩
theorem m_fw32 : m_fldw (7, 19, 6, 8) := ⟨(RX7, TX7, 13), rfl, by decide, m_in 542 (by decide +kernel) (by decide +kernel)⟩
theorem m_fw33 : m_fldw (7, 23, 6, 9) := ⟨(RX7, TX7, 13), rfl, by decide, m_in 543 (by decide +kernel) (by decide +kernel)⟩
theorem m_fw34 : m_fldw (7, 26, 6, 10) := ⟨(RX7, TX7, 13), rfl, by decide, m_in 544 (by decide +kernel) (by decide +kernel)⟩
theorem m_fw35 : m_fldw (7, 32, 6, 2) := ⟨(RX7, TX7, 13), rfl, by decide, m_in 536 (by decide +kernel) (by decide +kernel)⟩
theorem m_fw36 : m_fldw (7, 81, 6, 5) := ⟨(RX7, TX7, 13), rfl, by decide, m_in 539 (by decide +kernel) (by decide +kernel)⟩
theorem m_fw37 : m_fldw (7, 84, 6, 6) := ⟨(RX7, TX7, 13), rfl, by decide, m_in 540 (by decide +kernel) (by decide +kernel)⟩
theorem m_fw38 : m_fldw (7, 87, 6, 7) := ⟨(RX7, TX7, 13), rfl, by decide, m_in 541 (by decide +kernel) (by decide +kernel)⟩
theorem m_fw39 : m_fldw (7, 178, 6, 4) := ⟨(RX7, TX7, 13), rfl, by decide, m_in 538 (by decide +kernel) (by decide +kernel)⟩
theorem m_fw40 : m_fldw (7, 182, 6, 11) := ⟨(RX7, TX7, 13), rfl, by decide, m_in 545 (by decide +kernel) (by decide +kernel)⟩
theorem m_fw41 : m_fldw (7, 188, 6, 12) := ⟨(RX7, TX7, 13), rfl, by decide, m_in 546 (by decide +kernel) (by decide +kernel)⟩
set_option maxRecDepth 100000 in
theorem m_flds_w : ∀ q ∈ m_flds, m_fldw q := List.forall_mem_cons.mpr ⟨m_fw0, List.forall_mem_cons.mpr ⟨m_fw1, List.forall_mem_cons.mpr ⟨m_fw2, List.forall_mem_cons.mpr ⟨m_fw3, List.forall_mem_cons.mpr ⟨m_fw4, List.forall_mem_cons.mpr ⟨m_fw5, List.forall_mem_cons.mpr ⟨m_fw6, List.forall_mem_cons.mpr ⟨m_fw7, List.forall_mem_cons.mpr ⟨m_fw8, List.forall_mem_cons.mpr ⟨m_fw9, List.forall_mem_cons.mpr ⟨m_fw10, List.forall_mem_cons.mpr ⟨m_fw11, List.forall_mem_cons.mpr ⟨m_fw12, List.forall_mem_cons.mpr ⟨m_fw13, List.forall_mem_cons.mpr ⟨m_fw14, List.forall_mem_cons.mpr ⟨m_fw15, List.forall_mem_cons.mpr ⟨m_fw16, List.forall_mem_cons.mpr ⟨m_fw17, List.forall_mem_cons.mpr ⟨m_fw18, List.forall_mem_cons.mpr ⟨m_fw19, List.forall_mem_cons.mpr ⟨m_fw20, List.forall_mem_cons.mpr ⟨m_fw21, List.forall_mem_cons.mpr ⟨m_fw22, List.forall_mem_cons.mpr ⟨m_fw23, List.forall_mem_cons.mpr ⟨m_fw24, List.forall_mem_cons.mpr ⟨m_fw25, List.forall_mem_cons.mpr ⟨m_fw26, List.forall_mem_cons.mpr ⟨m_fw27, List.forall_mem_cons.mpr ⟨m_fw28, List.forall_mem_cons.mpr ⟨m_fw29, List.forall_mem_cons.mpr ⟨m_fw30, List.forall_mem_cons.mpr ⟨m_fw31, List.forall_mem_cons.mpr ⟨m_fw32, List.forall_mem_cons.mpr ⟨m_fw33, List.forall_mem_cons.mpr ⟨m_fw34, List.forall_mem_cons.mpr ⟨m_fw35, List.forall_mem_cons.mpr ⟨m_fw36, List.forall_mem_cons.mpr ⟨m_fw37, List.forall_mem_cons.mpr ⟨m_fw38, List.forall_mem_cons.mpr ⟨m_fw39, List.forall_mem_cons.mpr ⟨m_fw40, List.forall_mem_cons.mpr ⟨m_fw41, fun _ h => absurd h List.not_mem_nil⟩⟩⟩⟩⟩⟩⟩⟩⟩⟩⟩⟩⟩⟩⟩⟩⟩⟩⟩⟩⟩⟩⟩⟩⟩⟩⟩⟩⟩⟩⟩⟩⟩⟩⟩⟩⟩⟩⟩⟩⟩⟩
def m_spc (x : Nat) : MethodName := if x = 1000 then objectInit else if x = 1001 then arraycopyName else ⟨"java/lang/Float", "floatToRawIntBits", "(F)I"⟩
def m_yy (x : Nat) : MethodName := if x < 1000 then m_y x else m_spc x
def m_mthw (q : Nat × Nat × Nat) : Prop := Cond.methodLink (m_cn.getD q.1 "") q.2.1 (m_yy q.2.2) ∈ lw_g
theorem m_mw0 : m_mthw (11, 9, 58) := m_in 64 (by decide +kernel) (by decide +kernel)
theorem m_mw1 : m_mthw (11, 12, 85) := m_in 518 (by decide +kernel) (by decide +kernel)
theorem m_mw2 : m_mthw (11, 13, 59) := m_in 186 (by decide +kernel) (by decide +kernel)
theorem m_mw3 : m_mthw (11, 17, 97) := m_in 575 (by decide +kernel) (by decide +kernel)
theorem m_mw4 : m_mthw (11, 18, 60) := m_in 206 (by decide +kernel) (by decide +kernel)
theorem m_mw5 : m_mthw (11, 22, 99) := m_in 584 (by decide +kernel) (by decide +kernel)
theorem m_mw6 : m_mthw (11, 23, 61) := m_in 219 (by decide +kernel) (by decide +kernel)
theorem m_mw7 : m_mthw (11, 27, 100) := m_in 597 (by decide +kernel) (by decide +kernel)
theorem m_mw8 : m_mthw (11, 28, 62) := m_in 232 (by decide +kernel) (by decide +kernel)
theorem m_mw9 : m_mthw (11, 31, 101) := m_in 605 (by decide +kernel) (by decide +kernel)
theorem m_mw10 : m_mthw (11, 32, 63) := m_in 241 (by decide +kernel) (by decide +kernel)
theorem m_mw11 : m_mthw (11, 35, 102) := m_in 609 (by decide +kernel) (by decide +kernel)
theorem m_mw12 : m_mthw (11, 36, 64) := m_in 265 (by decide +kernel) (by decide +kernel)
theorem m_mw13 : m_mthw (11, 40, 106) := m_in 625 (by decide +kernel) (by decide +kernel)
theorem m_mw14 : m_mthw (11, 41, 65) := m_in 291 (by decide +kernel) (by decide +kernel)
theorem m_mw15 : m_mthw (11, 44, 108) := m_in 641 (by decide +kernel) (by decide +kernel)
theorem m_mw16 : m_mthw (11, 45, 66) := m_in 301 (by decide +kernel) (by decide +kernel)
theorem m_mw17 : m_mthw (11, 48, 119) := m_in 649 (by decide +kernel) (by decide +kernel)
theorem m_mw18 : m_mthw (11, 49, 67) := m_in 316 (by decide +kernel) (by decide +kernel)
theorem m_mw19 : m_mthw (11, 52, 121) := m_in 665 (by decide +kernel) (by decide +kernel)
theorem m_mw20 : m_mthw (11, 53, 68) := m_in 329 (by decide +kernel) (by decide +kernel)
theorem m_mw21 : m_mthw (11, 56, 122) := m_in 681 (by decide +kernel) (by decide +kernel)
theorem m_mw22 : m_mthw (11, 57, 69) := m_in 344 (by decide +kernel) (by decide +kernel)
theorem m_mw23 : m_mthw (11, 60, 123) := m_in 700 (by decide +kernel) (by decide +kernel)
theorem m_mw24 : m_mthw (11, 61, 70) := m_in 356 (by decide +kernel) (by decide +kernel)
theorem m_mw25 : m_mthw (11, 65, 128) := m_in 711 (by decide +kernel) (by decide +kernel)
theorem m_mw26 : m_mthw (11, 66, 71) := m_in 382 (by decide +kernel) (by decide +kernel)
theorem m_mw27 : m_mthw (11, 69, 129) := m_in 735 (by decide +kernel) (by decide +kernel)
theorem m_mw28 : m_mthw (11, 70, 72) := m_in 386 (by decide +kernel) (by decide +kernel)
theorem m_mw29 : m_mthw (11, 73, 130) := m_in 739 (by decide +kernel) (by decide +kernel)
theorem m_mw30 : m_mthw (11, 74, 73) := m_in 394 (by decide +kernel) (by decide +kernel)
theorem m_mw31 : m_mthw (11, 77, 134) := m_in 743 (by decide +kernel) (by decide +kernel)
theorem m_mw32 : m_mthw (11, 78, 74) := m_in 442 (by decide +kernel) (by decide +kernel)
theorem m_mw33 : m_mthw (11, 81, 136) := m_in 759 (by decide +kernel) (by decide +kernel)
theorem m_mw34 : m_mthw (11, 82, 75) := m_in 451 (by decide +kernel) (by decide +kernel)
theorem m_mw35 : m_mthw (11, 85, 138) := m_in 778 (by decide +kernel) (by decide +kernel)
theorem m_mw36 : m_mthw (11, 86, 76) := m_in 464 (by decide +kernel) (by decide +kernel)
theorem m_mw37 : m_mthw (11, 89, 139) := m_in 786 (by decide +kernel) (by decide +kernel)
theorem m_mw38 : m_mthw (11, 90, 77) := m_in 472 (by decide +kernel) (by decide +kernel)
theorem m_mw39 : m_mthw (11, 93, 140) := m_in 790 (by decide +kernel) (by decide +kernel)
theorem m_mw40 : m_mthw (11, 94, 78) := m_in 481 (by decide +kernel) (by decide +kernel)
theorem m_mw41 : m_mthw (11, 97, 141) := m_in 795 (by decide +kernel) (by decide +kernel)
theorem m_mw42 : m_mthw (11, 98, 79) := m_in 485 (by decide +kernel) (by decide +kernel)
theorem m_mw43 : m_mthw (11, 101, 144) := m_in 799 (by decide +kernel) (by decide +kernel)
theorem m_mw44 : m_mthw (11, 102, 80) := m_in 507 (by decide +kernel) (by decide +kernel)
theorem m_mw45 : m_mthw (11, 105, 145) := m_in 811 (by decide +kernel) (by decide +kernel)
theorem m_mw46 : m_mthw (0, 3, 1000) := m_in 118 (by decide +kernel) (by decide +kernel)
theorem m_mw47 : m_mthw (0, 22, 4) := m_in 198 (by decide +kernel) (by decide +kernel)
theorem m_mw48 : m_mthw (0, 31, 1001) := m_in 202 (by decide +kernel) (by decide +kernel)
theorem m_mw49 : m_mthw (1, 15, 7) := m_in 272 (by decide +kernel) (by decide +kernel)
theorem m_mw50 : m_mthw (1, 21, 40) := m_in 275 (by decide +kernel) (by decide +kernel)
theorem m_mw51 : m_mthw (1, 25, 38) := m_in 276 (by decide +kernel) (by decide +kernel)
theorem m_mw52 : m_mthw (1, 28, 11) := m_in 277 (by decide +kernel) (by decide +kernel)
theorem m_mw53 : m_mthw (1, 32, 9) := m_in 298 (by decide +kernel) (by decide +kernel)
theorem m_mw54 : m_mthw (1, 35, 41) := m_in 280 (by decide +kernel) (by decide +kernel)
theorem m_mw55 : m_mthw (1, 39, 39) := m_in 281 (by decide +kernel) (by decide +kernel)
theorem m_mw56 : m_mthw (1, 42, 148) := m_in 282 (by decide +kernel) (by decide +kernel)
theorem m_mw57 : m_mthw (2, 3, 1000) := m_in 150 (by decide +kernel) (by decide +kernel)
theorem m_mw58 : m_mthw (2, 21, 14) := m_in 402 (by decide +kernel) (by decide +kernel)
theorem m_mw59 : m_mthw (2, 25, 15) := m_in 412 (by decide +kernel) (by decide +kernel)
theorem m_mw60 : m_mthw (2, 44, 27) := m_in 425 (by decide +kernel) (by decide +kernel)
theorem m_mw61 : m_mthw (2, 48, 17) := m_in 420 (by decide +kernel) (by decide +kernel)
theorem m_mw62 : m_mthw (2, 52, 19) := m_in 426 (by decide +kernel) (by decide +kernel)
theorem m_mw63 : m_mthw (2, 56, 23) := m_in 406 (by decide +kernel) (by decide +kernel)
theorem m_mw64 : m_mthw (2, 63, 26) := m_in 410 (by decide +kernel) (by decide +kernel)
theorem m_mw65 : m_mthw (2, 67, 29) := m_in 411 (by decide +kernel) (by decide +kernel)
theorem m_mw66 : m_mthw (2, 70, 16) := m_in 416 (by decide +kernel) (by decide +kernel)
theorem m_mw67 : m_mthw (2, 76, 30) := m_in 424 (by decide +kernel) (by decide +kernel)
theorem m_mw68 : m_mthw (2, 79, 20) := m_in 430 (by decide +kernel) (by decide +kernel)
theorem m_mw69 : m_mthw (2, 83, 18) := m_in 434 (by decide +kernel) (by decide +kernel)
theorem m_mw70 : m_mthw (2, 86, 21) := m_in 438 (by decide +kernel) (by decide +kernel)
theorem m_mw71 : m_mthw (3, 3, 1000) := m_in 75 (by decide +kernel) (by decide +kernel)
theorem m_mw72 : m_mthw (3, 11, 36) := m_in 78 (by decide +kernel) (by decide +kernel)
theorem m_mw73 : m_mthw (3, 22, 10) := m_in 352 (by decide +kernel) (by decide +kernel)
theorem m_mw74 : m_mthw (3, 28, 24) := m_in 313 (by decide +kernel) (by decide +kernel)
theorem m_mw75 : m_mthw (3, 32, 40) := m_in 314 (by decide +kernel) (by decide +kernel)
theorem m_mw76 : m_mthw (3, 36, 38) := m_in 315 (by decide +kernel) (by decide +kernel)
theorem m_mw77 : m_mthw (3, 39, 39) := m_in 328 (by decide +kernel) (by decide +kernel)
theorem m_mw78 : m_mthw (3, 42, 28) := m_in 337 (by decide +kernel) (by decide +kernel)
theorem m_mw79 : m_mthw (3, 45, 26) := m_in 338 (by decide +kernel) (by decide +kernel)
theorem m_mw80 : m_mthw (3, 49, 27) := m_in 343 (by decide +kernel) (by decide +kernel)
theorem m_mw81 : m_mthw (3, 52, 29) := m_in 380 (by decide +kernel) (by decide +kernel)
theorem m_mw82 : m_mthw (3, 55, 30) := m_in 381 (by decide +kernel) (by decide +kernel)
theorem m_mw83 : m_mthw (3, 58, 31) := m_in 367 (by decide +kernel) (by decide +kernel)
theorem m_mw84 : m_mthw (3, 62, 33) := m_in 371 (by decide +kernel) (by decide +kernel)
theorem m_mw85 : m_mthw (3, 67, 32) := m_in 376 (by decide +kernel) (by decide +kernel)
theorem m_mw86 : m_mthw (4, 3, 1000) := m_in 81 (by decide +kernel) (by decide +kernel)
theorem m_mw87 : m_mthw (4, 15, 44) := m_in 82 (by decide +kernel) (by decide +kernel)
theorem m_mw88 : m_mthw (4, 23, 40) := m_in 240 (by decide +kernel) (by decide +kernel)
theorem m_mw89 : m_mthw (4, 27, 41) := m_in 257 (by decide +kernel) (by decide +kernel)
theorem m_mw90 : m_mthw (4, 31, 50) := m_in 86 (by decide +kernel) (by decide +kernel)
theorem m_mw91 : m_mthw (4, 35, 43) := m_in 89 (by decide +kernel) (by decide +kernel)
theorem m_mw92 : m_mthw (4, 38, 49) := m_in 215 (by decide +kernel) (by decide +kernel)
theorem m_mw93 : m_mthw (5, 3, 1000) := m_in 135 (by decide +kernel) (by decide +kernel)
theorem m_mw94 : m_mthw (5, 19, 54) := m_in 493 (by decide +kernel) (by decide +kernel)
theorem m_mw95 : m_mthw (5, 23, 56) := m_in 497 (by decide +kernel) (by decide +kernel)
theorem m_mw96 : m_mthw (5, 27, 57) := m_in 501 (by decide +kernel) (by decide +kernel)
theorem m_mw97 : m_mthw (5, 30, 37) := m_in 505 (by decide +kernel) (by decide +kernel)
theorem m_mw98 : m_mthw (5, 36, 43) := m_in 515 (by decide +kernel) (by decide +kernel)
theorem m_mw99 : m_mthw (6, 3, 1000) := m_in 67 (by decide +kernel) (by decide +kernel)
theorem m_mw100 : m_mthw (6, 11, 22) := m_in 72 (by decide +kernel) (by decide +kernel)
theorem m_mw101 : m_mthw (6, 23, 1) := m_in 115 (by decide +kernel) (by decide +kernel)
theorem m_mw102 : m_mthw (6, 30, 51) := m_in 132 (by decide +kernel) (by decide +kernel)
theorem m_mw103 : m_mthw (6, 37, 12) := m_in 147 (by decide +kernel) (by decide +kernel)
theorem m_mw104 : m_mthw (6, 42, 81) := m_in 190 (by decide +kernel) (by decide +kernel)
theorem m_mw105 : m_mthw (6, 47, 2) := m_in 194 (by decide +kernel) (by decide +kernel)
theorem m_mw106 : m_mthw (6, 57, 44) := m_in 205 (by decide +kernel) (by decide +kernel)
theorem m_mw107 : m_mthw (6, 62, 45) := m_in 211 (by decide +kernel) (by decide +kernel)
theorem m_mw108 : m_mthw (6, 66, 37) := m_in 223 (by decide +kernel) (by decide +kernel)
theorem m_mw109 : m_mthw (6, 69, 40) := m_in 227 (by decide +kernel) (by decide +kernel)
theorem m_mw110 : m_mthw (6, 73, 43) := m_in 231 (by decide +kernel) (by decide +kernel)
theorem m_mw111 : m_mthw (6, 77, 46) := m_in 236 (by decide +kernel) (by decide +kernel)
theorem m_mw112 : m_mthw (6, 80, 38) := m_in 245 (by decide +kernel) (by decide +kernel)
theorem m_mw113 : m_mthw (6, 83, 39) := m_in 249 (by decide +kernel) (by decide +kernel)
theorem m_mw114 : m_mthw (6, 86, 42) := m_in 253 (by decide +kernel) (by decide +kernel)
theorem m_mw115 : m_mthw (6, 90, 83) := m_in 261 (by decide +kernel) (by decide +kernel)
theorem m_mw116 : m_mthw (6, 94, 5) := m_in 269 (by decide +kernel) (by decide +kernel)
theorem m_mw117 : m_mthw (6, 101, 6) := m_in 288 (by decide +kernel) (by decide +kernel)
theorem m_mw118 : m_mthw (6, 104, 8) := m_in 295 (by decide +kernel) (by decide +kernel)
theorem m_mw119 : m_mthw (6, 108, 24) := m_in 305 (by decide +kernel) (by decide +kernel)
theorem m_mw120 : m_mthw (6, 109, 26) := m_in 309 (by decide +kernel) (by decide +kernel)
theorem m_mw121 : m_mthw (6, 113, 27) := m_in 320 (by decide +kernel) (by decide +kernel)
theorem m_mw122 : m_mthw (6, 116, 28) := m_in 324 (by decide +kernel) (by decide +kernel)
theorem m_mw123 : m_mthw (6, 119, 29) := m_in 333 (by decide +kernel) (by decide +kernel)
theorem m_mw124 : m_mthw (6, 122, 30) := m_in 339 (by decide +kernel) (by decide +kernel)
theorem m_mw125 : m_mthw (6, 125, 25) := m_in 348 (by decide +kernel) (by decide +kernel)
theorem m_mw126 : m_mthw (6, 129, 10) := m_in 355 (by decide +kernel) (by decide +kernel)
theorem m_mw127 : m_mthw (6, 133, 82) := m_in 360 (by decide +kernel) (by decide +kernel)
theorem m_mw128 : m_mthw (6, 136, 34) := m_in 363 (by decide +kernel) (by decide +kernel)
theorem m_mw129 : m_mthw (6, 140, 35) := m_in 390 (by decide +kernel) (by decide +kernel)
theorem m_mw130 : m_mthw (6, 143, 13) := m_in 398 (by decide +kernel) (by decide +kernel)
theorem m_mw131 : m_mthw (6, 148, 84) := m_in 447 (by decide +kernel) (by decide +kernel)
theorem m_mw132 : m_mthw (6, 152, 23) := m_in 455 (by decide +kernel) (by decide +kernel)
theorem m_mw133 : m_mthw (6, 155, 47) := m_in 456 (by decide +kernel) (by decide +kernel)
theorem m_mw134 : m_mthw (6, 158, 48) := m_in 460 (by decide +kernel) (by decide +kernel)
theorem m_mw135 : m_mthw (6, 167, 3) := m_in 468 (by decide +kernel) (by decide +kernel)
theorem m_mw136 : m_mthw (6, 170, 52) := m_in 476 (by decide +kernel) (by decide +kernel)
theorem m_mw137 : m_mthw (6, 175, 53) := m_in 489 (by decide +kernel) (by decide +kernel)
theorem m_mw138 : m_mthw (6, 179, 54) := m_in 506 (by decide +kernel) (by decide +kernel)
theorem m_mw139 : m_mthw (6, 183, 55) := m_in 511 (by decide +kernel) (by decide +kernel)
theorem m_mw140 : m_mthw (7, 1, 1000) := m_in 521 (by decide +kernel) (by decide +kernel)
theorem m_mw141 : m_mthw (7, 29, 96) := m_in 522 (by decide +kernel) (by decide +kernel)
theorem m_mw142 : m_mthw (7, 36, 89) := m_in 657 (by decide +kernel) (by decide +kernel)
theorem m_mw143 : m_mthw (7, 40, 91) := m_in 616 (by decide +kernel) (by decide +kernel)
theorem m_mw144 : m_mthw (7, 44, 93) := m_in 526 (by decide +kernel) (by decide +kernel)
theorem m_mw145 : m_mthw (7, 47, 95) := m_in 530 (by decide +kernel) (by decide +kernel)
theorem m_mw146 : m_mthw (7, 52, 87) := m_in 580 (by decide +kernel) (by decide +kernel)
theorem m_mw147 : m_mthw (7, 56, 98) := m_in 589 (by decide +kernel) (by decide +kernel)
theorem m_mw148 : m_mthw (7, 60, 94) := m_in 593 (by decide +kernel) (by decide +kernel)
theorem m_mw149 : m_mthw (7, 63, 88) := m_in 601 (by decide +kernel) (by decide +kernel)
theorem m_mw150 : m_mthw (7, 66, 86) := m_in 613 (by decide +kernel) (by decide +kernel)
theorem m_mw151 : m_mthw (7, 70, 92) := m_in 620 (by decide +kernel) (by decide +kernel)
theorem m_mw152 : m_mthw (7, 74, 103) := m_in 637 (by decide +kernel) (by decide +kernel)
theorem m_mw153 : m_mthw (7, 77, 104) := m_in 633 (by decide +kernel) (by decide +kernel)
theorem m_mw154 : m_mthw (7, 90, 105) := m_in 629 (by decide +kernel) (by decide +kernel)
theorem m_mw155 : m_mthw (7, 93, 107) := m_in 645 (by decide +kernel) (by decide +kernel)
theorem m_mw156 : m_mthw (7, 97, 109) := m_in 661 (by decide +kernel) (by decide +kernel)
theorem m_mw157 : m_mthw (7, 100, 110) := m_in 673 (by decide +kernel) (by decide +kernel)
theorem m_mw158 : m_mthw (7, 104, 112) := m_in 693 (by decide +kernel) (by decide +kernel)
theorem m_mw159 : m_mthw (7, 108, 114) := m_in 689 (by decide +kernel) (by decide +kernel)
theorem m_mw160 : m_mthw (7, 111, 113) := m_in 708 (by decide +kernel) (by decide +kernel)
theorem m_mw161 : m_mthw (7, 115, 111) := m_in 669 (by decide +kernel) (by decide +kernel)
theorem m_mw162 : m_mthw (7, 118, 117) := m_in 704 (by decide +kernel) (by decide +kernel)
theorem m_mw163 : m_mthw (7, 122, 90) := m_in 653 (by decide +kernel) (by decide +kernel)
theorem m_mw164 : m_mthw (7, 125, 120) := m_in 677 (by decide +kernel) (by decide +kernel)
theorem m_mw165 : m_mthw (7, 128, 115) := m_in 685 (by decide +kernel) (by decide +kernel)
theorem m_mw166 : m_mthw (7, 131, 116) := m_in 696 (by decide +kernel) (by decide +kernel)
theorem m_mw167 : m_mthw (7, 134, 126) := m_in 723 (by decide +kernel) (by decide +kernel)
theorem m_mw168 : m_mthw (7, 138, 124) := m_in 727 (by decide +kernel) (by decide +kernel)
theorem m_mw169 : m_mthw (7, 141, 125) := m_in 731 (by decide +kernel) (by decide +kernel)
theorem m_mw170 : m_mthw (7, 145, 118) := m_in 715 (by decide +kernel) (by decide +kernel)
theorem m_mw171 : m_mthw (7, 149, 127) := m_in 719 (by decide +kernel) (by decide +kernel)
theorem m_mw172 : m_mthw (7, 153, 131) := m_in 751 (by decide +kernel) (by decide +kernel)
theorem m_mw173 : m_mthw (7, 157, 132) := m_in 747 (by decide +kernel) (by decide +kernel)
theorem m_mw174 : m_mthw (7, 161, 133) := m_in 755 (by decide +kernel) (by decide +kernel)
theorem m_mw175 : m_mthw (7, 164, 135) := m_in 763 (by decide +kernel) (by decide +kernel)
theorem m_mw176 : m_mthw (7, 168, 147) := m_in 768 (by decide +kernel) (by decide +kernel)
theorem m_mw177 : m_mthw (7, 174, 137) := m_in 782 (by decide +kernel) (by decide +kernel)
theorem m_mw178 : m_mthw (7, 185, 142) := m_in 807 (by decide +kernel) (by decide +kernel)
theorem m_mw179 : m_mthw (7, 191, 143) := m_in 803 (by decide +kernel) (by decide +kernel)
theorem m_mw180 : m_mthw (8, 59, 146) := m_in 771 (by decide +kernel) (by decide +kernel)
theorem m_mw181 : m_mthw (8, 74, 1002) := m_in 774 (by decide +kernel) (by decide +kernel)
set_option maxRecDepth 100000 in
theorem m_mths_w : ∀ q ∈ m_mths, m_mthw q := List.forall_mem_cons.mpr ⟨m_mw0, List.forall_mem_cons.mpr ⟨m_mw1, List.forall_mem_cons.mpr ⟨m_mw2, List.forall_mem_cons.mpr ⟨m_mw3, List.forall_mem_cons.mpr ⟨m_mw4, List.forall_mem_cons.mpr ⟨m_mw5, List.forall_mem_cons.mpr ⟨m_mw6, List.forall_mem_cons.mpr ⟨m_mw7, List.forall_mem_cons.mpr ⟨m_mw8, List.forall_mem_cons.mpr ⟨m_mw9, List.forall_mem_cons.mpr ⟨m_mw10, List.forall_mem_cons.mpr ⟨m_mw11, List.forall_mem_cons.mpr ⟨m_mw12, List.forall_mem_cons.mpr ⟨m_mw13, List.forall_mem_cons.mpr ⟨m_mw14, List.forall_mem_cons.mpr ⟨m_mw15, List.forall_mem_cons.mpr ⟨m_mw16, List.forall_mem_cons.mpr ⟨m_mw17, List.forall_mem_cons.mpr ⟨m_mw18, List.forall_mem_cons.mpr ⟨m_mw19, List.forall_mem_cons.mpr ⟨m_mw20, List.forall_mem_cons.mpr ⟨m_mw21, List.forall_mem_cons.mpr ⟨m_mw22, List.forall_mem_cons.mpr ⟨m_mw23, List.forall_mem_cons.mpr ⟨m_mw24, List.forall_mem_cons.mpr ⟨m_mw25, List.forall_mem_cons.mpr ⟨m_mw26, List.forall_mem_cons.mpr ⟨m_mw27, List.forall_mem_cons.mpr ⟨m_mw28, List.forall_mem_cons.mpr ⟨m_mw29, List.forall_mem_cons.mpr ⟨m_mw30, List.forall_mem_cons.mpr ⟨m_mw31, List.forall_mem_cons.mpr ⟨m_mw32, List.forall_mem_cons.mpr ⟨m_mw33, List.forall_mem_cons.mpr ⟨m_mw34, List.forall_mem_cons.mpr ⟨m_mw35, List.forall_mem_cons.mpr ⟨m_mw36, List.forall_mem_cons.mpr ⟨m_mw37, List.forall_mem_cons.mpr ⟨m_mw38, List.forall_mem_cons.mpr ⟨m_mw39, List.forall_mem_cons.mpr ⟨m_mw40, List.forall_mem_cons.mpr ⟨m_mw41, List.forall_mem_cons.mpr ⟨m_mw42, List.forall_mem_cons.mpr ⟨m_mw43, List.forall_mem_cons.mpr ⟨m_mw44, List.forall_mem_cons.mpr ⟨m_mw45, List.forall_mem_cons.mpr ⟨m_mw46, List.forall_mem_cons.mpr ⟨m_mw47, List.forall_mem_cons.mpr ⟨m_mw48, List.forall_mem_cons.mpr ⟨m_mw49, List.forall_mem_cons.mpr ⟨m_mw50, List.forall_mem_cons.mpr ⟨m_mw51, List.forall_mem_cons.mpr ⟨m_mw52, List.forall_mem_cons.mpr ⟨m_mw53, List.forall_mem_cons.mpr ⟨m_mw54, List.forall_mem_cons.mpr ⟨m_mw55, List.forall_mem_cons.mpr ⟨m_mw56, List.forall_mem_cons.mpr ⟨m_mw57, List.forall_mem_cons.mpr ⟨m_mw58, List.forall_mem_cons.mpr ⟨m_mw59, List.forall_mem_cons.mpr ⟨m_mw60, List.forall_mem_cons.mpr ⟨m_mw61, List.forall_mem_cons.mpr ⟨m_mw62, List.forall_mem_cons.mpr ⟨m_mw63, List.forall_mem_cons.mpr ⟨m_mw64, List.forall_mem_cons.mpr ⟨m_mw65, List.forall_mem_cons.mpr ⟨m_mw66, List.forall_mem_cons.mpr ⟨m_mw67, List.forall_mem_cons.mpr ⟨m_mw68, List.forall_mem_cons.mpr ⟨m_mw69, List.forall_mem_cons.mpr ⟨m_mw70, List.forall_mem_cons.mpr ⟨m_mw71, List.forall_mem_cons.mpr ⟨m_mw72, List.forall_mem_cons.mpr ⟨m_mw73, List.forall_mem_cons.mpr ⟨m_mw74, List.forall_mem_cons.mpr ⟨m_mw75, List.forall_mem_cons.mpr ⟨m_mw76, List.forall_mem_cons.mpr ⟨m_mw77, List.forall_mem_cons.mpr ⟨m_mw78, List.forall_mem_cons.mpr ⟨m_mw79, List.forall_mem_cons.mpr ⟨m_mw80, List.forall_mem_cons.mpr ⟨m_mw81, List.forall_mem_cons.mpr ⟨m_mw82, List.forall_mem_cons.mpr ⟨m_mw83, List.forall_mem_cons.mpr ⟨m_mw84, List.forall_mem_cons.mpr ⟨m_mw85, List.forall_mem_cons.mpr ⟨m_mw86, List.forall_mem_cons.mpr ⟨m_mw87, List.forall_mem_cons.mpr ⟨m_mw88, List.forall_mem_cons.mpr ⟨m_mw89, List.forall_mem_cons.mpr ⟨m_mw90, List.forall_mem_cons.mpr ⟨m_mw91, List.forall_mem_cons.mpr ⟨m_mw92, List.forall_mem_cons.mpr ⟨m_mw93, List.forall_mem_cons.mpr ⟨m_mw94, List.forall_mem_cons.mpr ⟨m_mw95, List.forall_mem_cons.mpr ⟨m_mw96, List.forall_mem_cons.mpr ⟨m_mw97, List.forall_mem_cons.mpr ⟨m_mw98, List.forall_mem_cons.mpr ⟨m_mw99, List.forall_mem_cons.mpr ⟨m_mw100, List.forall_mem_cons.mpr ⟨m_mw101, List.forall_mem_cons.mpr ⟨m_mw102, List.forall_mem_cons.mpr ⟨m_mw103, List.forall_mem_cons.mpr ⟨m_mw104, List.forall_mem_cons.mpr ⟨m_mw105, List.forall_mem_cons.mpr ⟨m_mw106, List.forall_mem_cons.mpr ⟨m_mw107, List.forall_mem_cons.mpr ⟨m_mw108, List.forall_mem_cons.mpr ⟨m_mw109, List.forall_mem_cons.mpr ⟨m_mw110, List.forall_mem_cons.mpr ⟨m_mw111, List.forall_mem_cons.mpr ⟨m_mw112, List.forall_mem_cons.mpr ⟨m_mw113, List.forall_mem_cons.mpr ⟨m_mw114, List.forall_mem_cons.mpr ⟨m_mw115, List.forall_mem_cons.mpr ⟨m_mw116, List.forall_mem_cons.mpr ⟨m_mw117, List.forall_mem_cons.mpr ⟨m_mw118, List.forall_mem_cons.mpr ⟨m_mw119, List.forall_mem_cons.mpr ⟨m_mw120, List.forall_mem_cons.mpr ⟨m_mw121, List.forall_mem_cons.mpr ⟨m_mw122, List.forall_mem_cons.mpr ⟨m_mw123, List.forall_mem_cons.mpr ⟨m_mw124, List.forall_mem_cons.mpr ⟨m_mw125, List.forall_mem_cons.mpr ⟨m_mw126, List.forall_mem_cons.mpr ⟨m_mw127, List.forall_mem_cons.mpr ⟨m_mw128, List.forall_mem_cons.mpr ⟨m_mw129, List.forall_mem_cons.mpr ⟨m_mw130, List.forall_mem_cons.mpr ⟨m_mw131, List.forall_mem_cons.mpr ⟨m_mw132, List.forall_mem_cons.mpr ⟨m_mw133, List.forall_mem_cons.mpr ⟨m_mw134, List.forall_mem_cons.mpr ⟨m_mw135, List.forall_mem_cons.mpr ⟨m_mw136, List.forall_mem_cons.mpr ⟨m_mw137, List.forall_mem_cons.mpr ⟨m_mw138, List.forall_mem_cons.mpr ⟨m_mw139, List.forall_mem_cons.mpr ⟨m_mw140, List.forall_mem_cons.mpr ⟨m_mw141, List.forall_mem_cons.mpr ⟨m_mw142, List.forall_mem_cons.mpr ⟨m_mw143, List.forall_mem_cons.mpr ⟨m_mw144, List.forall_mem_cons.mpr ⟨m_mw145, List.forall_mem_cons.mpr ⟨m_mw146, List.forall_mem_cons.mpr ⟨m_mw147, List.forall_mem_cons.mpr ⟨m_mw148, List.forall_mem_cons.mpr ⟨m_mw149, List.forall_mem_cons.mpr ⟨m_mw150, List.forall_mem_cons.mpr ⟨m_mw151, List.forall_mem_cons.mpr ⟨m_mw152, List.forall_mem_cons.mpr ⟨m_mw153, List.forall_mem_cons.mpr ⟨m_mw154, List.forall_mem_cons.mpr ⟨m_mw155, List.forall_mem_cons.mpr ⟨m_mw156, List.forall_mem_cons.mpr ⟨m_mw157, List.forall_mem_cons.mpr ⟨m_mw158, List.forall_mem_cons.mpr ⟨m_mw159, List.forall_mem_cons.mpr ⟨m_mw160, List.forall_mem_cons.mpr ⟨m_mw161, List.forall_mem_cons.mpr ⟨m_mw162, List.forall_mem_cons.mpr ⟨m_mw163, List.forall_mem_cons.mpr ⟨m_mw164, List.forall_mem_cons.mpr ⟨m_mw165, List.forall_mem_cons.mpr ⟨m_mw166, List.forall_mem_cons.mpr ⟨m_mw167, List.forall_mem_cons.mpr ⟨m_mw168, List.forall_mem_cons.mpr ⟨m_mw169, List.forall_mem_cons.mpr ⟨m_mw170, List.forall_mem_cons.mpr ⟨m_mw171, List.forall_mem_cons.mpr ⟨m_mw172, List.forall_mem_cons.mpr ⟨m_mw173, List.forall_mem_cons.mpr ⟨m_mw174, List.forall_mem_cons.mpr ⟨m_mw175, List.forall_mem_cons.mpr ⟨m_mw176, List.forall_mem_cons.mpr ⟨m_mw177, List.forall_mem_cons.mpr ⟨m_mw178, List.forall_mem_cons.mpr ⟨m_mw179, List.forall_mem_cons.mpr ⟨m_mw180, List.forall_mem_cons.mpr ⟨m_mw181, fun _ h => absurd h List.not_mem_nil⟩⟩⟩⟩⟩⟩⟩⟩⟩⟩⟩⟩⟩⟩⟩⟩⟩⟩⟩⟩⟩⟩⟩⟩⟩⟩⟩⟩⟩⟩⟩⟩⟩⟩⟩⟩⟩⟩⟩⟩⟩⟩⟩⟩⟩⟩⟩⟩⟩⟩⟩⟩⟩⟩⟩⟩⟩⟩⟩⟩⟩⟩⟩⟩⟩⟩⟩⟩⟩⟩⟩⟩⟩⟩⟩⟩⟩⟩⟩⟩⟩⟩⟩⟩⟩⟩⟩⟩⟩⟩⟩⟩⟩⟩⟩⟩⟩⟩⟩⟩⟩⟩⟩⟩⟩⟩⟩⟩⟩⟩⟩⟩⟩⟩⟩⟩⟩⟩⟩⟩⟩⟩⟩⟩⟩⟩⟩⟩⟩⟩⟩⟩⟩⟩⟩⟩⟩⟩⟩⟩⟩⟩⟩⟩⟩⟩⟩⟩⟩⟩⟩⟩⟩⟩⟩⟩⟩⟩⟩⟩⟩⟩⟩⟩⟩⟩⟩⟩⟩⟩⟩⟩⟩⟩⟩⟩⟩⟩⟩⟩⟩⟩
def m_cstw (q : Nat × Nat × Nat × Int) : Prop := (q.2.2.1 = 0 → Cond.constant (m_cn.getD q.1 "") q.2.1 (Int32.ofInt q.2.2.2) ∈ lw_g) ∧ (¬ q.2.2.1 = 0 → Cond.constantFloat (m_cn.getD q.1 "") q.2.1 (UInt32.ofNat q.2.2.2.toNat) ∈ lw_g)
theorem m_cw0 : m_cstw (3, 66, 0, -1000002) := ⟨fun _ => m_in 375 (by decide +kernel) (by decide +kernel), fun h => absurd rfl h⟩
theorem m_cw1 : m_cstw (6, 46, 0, -1000001) := ⟨fun _ => m_in 193 (by decide +kernel) (by decide +kernel), fun h => absurd rfl h⟩
theorem m_cw2 : m_cstw (6, 61, 0, -1000002) := ⟨fun _ => m_in 210 (by decide +kernel) (by decide +kernel), fun h => absurd rfl h⟩
theorem m_cw3 : m_cstw (6, 100, 0, -1000004) := ⟨fun _ => m_in 264 (by decide +kernel) (by decide +kernel), fun h => absurd rfl h⟩
theorem m_cw4 : m_cstw (6, 147, 1, 1090519040) := ⟨fun h => absurd h (by decide), fun _ => m_in 446 (by decide +kernel) (by decide +kernel)⟩
theorem m_cw5 : m_cstw (6, 174, 0, -1000003) := ⟨fun _ => m_in 480 (by decide +kernel) (by decide +kernel), fun h => absurd rfl h⟩
theorem m_cw6 : m_cstw (6, 186, 1, 1258291200) := ⟨fun h => absurd h (by decide), fun _ => m_in 450 (by decide +kernel) (by decide +kernel)⟩
theorem m_cw7 : m_cstw (7, 51, 0, -1000001) := ⟨fun _ => m_in 579 (by decide +kernel) (by decide +kernel), fun h => absurd rfl h⟩
theorem m_cw8 : m_cstw (7, 55, 0, -1000002) := ⟨fun _ => m_in 588 (by decide +kernel) (by decide +kernel), fun h => absurd rfl h⟩
theorem m_cw9 : m_cstw (7, 73, 0, -1000004) := ⟨fun _ => m_in 624 (by decide +kernel) (by decide +kernel), fun h => absurd rfl h⟩
theorem m_cw10 : m_cstw (7, 167, 1, 1090519040) := ⟨fun h => absurd h (by decide), fun _ => m_in 767 (by decide +kernel) (by decide +kernel)⟩
theorem m_cw11 : m_cstw (7, 181, 0, -1000003) := ⟨fun _ => m_in 794 (by decide +kernel) (by decide +kernel), fun h => absurd rfl h⟩
theorem m_cw12 : m_cstw (8, 77, 0, 2143289344) := ⟨fun _ => m_in 777 (by decide +kernel) (by decide +kernel), fun h => absurd rfl h⟩
theorem m_cw13 : m_cstw (9, 265, 0, 1431655765) := ⟨fun _ => m_in 285 (by decide +kernel) (by decide +kernel), fun h => absurd rfl h⟩
theorem m_cw14 : m_cstw (9, 266, 0, 858993459) := ⟨fun _ => m_in 286 (by decide +kernel) (by decide +kernel), fun h => absurd rfl h⟩
theorem m_cw15 : m_cstw (9, 267, 0, 252645135) := ⟨fun _ => m_in 287 (by decide +kernel) (by decide +kernel), fun h => absurd rfl h⟩
set_option maxRecDepth 100000 in
theorem m_csts_w : ∀ q ∈ m_csts, m_cstw q := List.forall_mem_cons.mpr ⟨m_cw0, List.forall_mem_cons.mpr ⟨m_cw1, List.forall_mem_cons.mpr ⟨m_cw2, List.forall_mem_cons.mpr ⟨m_cw3, List.forall_mem_cons.mpr ⟨m_cw4, List.forall_mem_cons.mpr ⟨m_cw5, List.forall_mem_cons.mpr ⟨m_cw6, List.forall_mem_cons.mpr ⟨m_cw7, List.forall_mem_cons.mpr ⟨m_cw8, List.forall_mem_cons.mpr ⟨m_cw9, List.forall_mem_cons.mpr ⟨m_cw10, List.forall_mem_cons.mpr ⟨m_cw11, List.forall_mem_cons.mpr ⟨m_cw12, List.forall_mem_cons.mpr ⟨m_cw13, List.forall_mem_cons.mpr ⟨m_cw14, List.forall_mem_cons.mpr ⟨m_cw15, fun _ h => absurd h List.not_mem_nil⟩⟩⟩⟩⟩⟩⟩⟩⟩⟩⟩⟩⟩⟩⟩⟩
def m_clsw (q : Nat × Nat × Nat) : Prop := ∃ r : vw_C, vwCl[q.2.2]? = some r ∧ Cond.classLink (m_cn.getD q.1 "") q.2.1 r.1 ∈ lw_g ∧ Cond.instantiable r.1 r.2.2 ∈ lw_g ∧ Cond.initialized r.1 ∈ lw_g
theorem m_lw0 : m_clsw (11, 7, 5) := ⟨(RX6, TX6, 5), rfl, m_in 62 (by decide +kernel) (by decide +kernel), m_in 63 (by decide +kernel) (by decide +kernel), m_in 51 (by decide +kernel) (by decide +kernel)⟩
theorem m_lw1 : m_clsw (11, 10, 6) := ⟨(RX7, TX7, 13), rfl, m_in 516 (by decide +kernel) (by decide +kernel), m_in 517 (by decide +kernel) (by decide +kernel), m_in 57 (by decide +kernel) (by decide +kernel)⟩
theorem m_lw2 : m_clsw (3, 9, 3) := ⟨(RX4, TX4, 2), rfl, m_in 76 (by decide +kernel) (by decide +kernel), m_in 77 (by decide +kernel) (by decide +kernel), m_in 53 (by decide +kernel) (by decide +kernel)⟩
theorem m_lw3 : m_clsw (6, 9, 2) := ⟨(RX3, TX3, 1), rfl, m_in 70 (by decide +kernel) (by decide +kernel), m_in 71 (by decide +kernel) (by decide +kernel), m_in 52 (by decide +kernel) (by decide +kernel)⟩
theorem m_lw4 : m_clsw (6, 21, 0) := ⟨(RX0, TX0, 3), rfl, m_in 113 (by decide +kernel) (by decide +kernel), m_in 114 (by decide +kernel) (by decide +kernel), m_in 54 (by decide +kernel) (by decide +kernel)⟩
theorem m_lw5 : m_clsw (6, 28, 4) := ⟨(RX5, TX5, 2), rfl, m_in 130 (by decide +kernel) (by decide +kernel), m_in 131 (by decide +kernel) (by decide +kernel), m_in 55 (by decide +kernel) (by decide +kernel)⟩
theorem m_lw6 : m_clsw (6, 35, 1) := ⟨(RX2, TX2, 6), rfl, m_in 145 (by decide +kernel) (by decide +kernel), m_in 146 (by decide +kernel) (by decide +kernel), m_in 56 (by decide +kernel) (by decide +kernel)⟩
set_option maxRecDepth 100000 in
theorem m_clss_w : ∀ q ∈ m_clss, m_clsw q := List.forall_mem_cons.mpr ⟨m_lw0, List.forall_mem_cons.mpr ⟨m_lw1, List.forall_mem_cons.mpr ⟨m_lw2, List.forall_mem_cons.mpr ⟨m_lw3, List.forall_mem_cons.mpr ⟨m_lw4, List.forall_mem_cons.mpr ⟨m_lw5, List.forall_mem_cons.mpr ⟨m_lw6, fun _ h => absurd h List.not_mem_nil⟩⟩⟩⟩⟩⟩⟩
def m_metw (mi : Nat) : Prop := Cond.code (m_y mi) (m_cd mi) (m_ml mi) (m_ret mi) ∈ lw_g ∧ Cond.initialized (m_y mi).cls ∈ lw_g ∧ (m_kind mi = 0 → Cond.static (m_y mi) ∈ lw_g) ∧ (¬ m_kind mi = 0 → Cond.instanceMethod (m_y mi) ∈ lw_g) ∧ (m_kind mi = 1 → Cond.selects (m_y mi).cls (m_y mi) (m_y mi) ∈ lw_g) ∧ (m_kind mi = 2 → (m_y mi).name = "<init>" ∧ m_ret mi = none) ∧ ((m_y mi).cls = m_own mi ∧ (m_y mi).cls ≠ "java/lang/invoke/MethodHandle" ∧ (m_y mi).cls ≠ "java/lang/invoke/VarHandle" ∧ (parseMethodDescriptor (m_y mi).desc).map (fun d => d.parameters.length) = some (m_np mi)) ∧ plainFor (m_y mi) = true
theorem m_tw1 : m_metw 1 := ⟨m_in 117 (by decide +kernel) (by decide +kernel), m_in 54 (by decide +kernel) (by decide +kernel), (fun h => absurd h (by decide)), (fun _ => m_in 116 (by decide +kernel) (by decide +kernel)), (fun h => absurd h (by decide)), (fun _ => ⟨rfl, rfl⟩), ⟨rfl, (by decide +kernel), (by decide +kernel), (by decide +kernel)⟩, (by decide +kernel)⟩
theorem m_tw2 : m_metw 2 := ⟨m_in 197 (by decide +kernel) (by decide +kernel), m_in 54 (by decide +kernel) (by decide +kernel), (fun h => absurd h (by decide)), (fun _ => m_in 195 (by decide +kernel) (by decide +kernel)), (fun _ => m_in 196 (by decide +kernel) (by decide +kernel)), (fun h => absurd h (by decide)), ⟨rfl, (by decide +kernel), (by decide +kernel), (by decide +kernel)⟩, (by decide +kernel)⟩
theorem m_tw3 : m_metw 3 := ⟨m_in 471 (by decide +kernel) (by decide +kernel), m_in 54 (by decide +kernel) (by decide +kernel), (fun h => absurd h (by decide)), (fun _ => m_in 469 (by decide +kernel) (by decide +kernel)), (fun _ => m_in 470 (by decide +kernel) (by decide +kernel)), (fun h => absurd h (by decide)), ⟨rfl, (by decide +kernel), (by decide +kernel), (by decide +kernel)⟩, (by decide +kernel)⟩
theorem m_tw4 : m_metw 4 := ⟨m_in 201 (by decide +kernel) (by decide +kernel), m_in 54 (by decide +kernel) (by decide +kernel), (fun h => absurd h (by decide)), (fun _ => m_in 200 (by decide +kernel) (by decide +kernel)), (fun _ => m_in 0 (by decide +kernel) (by decide +kernel)), (fun h => absurd h (by decide)), ⟨rfl, (by decide +kernel), (by decide +kernel), (by decide +kernel)⟩, (by decide +kernel)⟩
theorem m_tw5 : m_metw 5 := ⟨m_in 271 (by decide +kernel) (by decide +kernel), m_in 59 (by decide +kernel) (by decide +kernel), (fun _ => m_in 270 (by decide +kernel) (by decide +kernel)), (fun h => absurd rfl h), (fun h => absurd h (by decide)), (fun h => absurd h (by decide)), ⟨rfl, (by decide +kernel), (by decide +kernel), (by decide +kernel)⟩, (by decide +kernel)⟩
theorem m_tw6 : m_metw 6 := ⟨m_in 290 (by decide +kernel) (by decide +kernel), m_in 59 (by decide +kernel) (by decide +kernel), (fun _ => m_in 289 (by decide +kernel) (by decide +kernel)), (fun h => absurd rfl h), (fun h => absurd h (by decide)), (fun h => absurd h (by decide)), ⟨rfl, (by decide +kernel), (by decide +kernel), (by decide +kernel)⟩, (by decide +kernel)⟩
theorem m_tw7 : m_metw 7 := ⟨m_in 274 (by decide +kernel) (by decide +kernel), m_in 59 (by decide +kernel) (by decide +kernel), (fun _ => m_in 273 (by decide +kernel) (by decide +kernel)), (fun h => absurd rfl h), (fun h => absurd h (by decide)), (fun h => absurd h (by decide)), ⟨rfl, (by decide +kernel), (by decide +kernel), (by decide +kernel)⟩, (by decide +kernel)⟩
theorem m_tw8 : m_metw 8 := ⟨m_in 297 (by decide +kernel) (by decide +kernel), m_in 59 (by decide +kernel) (by decide +kernel), (fun _ => m_in 296 (by decide +kernel) (by decide +kernel)), (fun h => absurd rfl h), (fun h => absurd h (by decide)), (fun h => absurd h (by decide)), ⟨rfl, (by decide +kernel), (by decide +kernel), (by decide +kernel)⟩, (by decide +kernel)⟩
theorem m_tw9 : m_metw 9 := ⟨m_in 300 (by decide +kernel) (by decide +kernel), m_in 59 (by decide +kernel) (by decide +kernel), (fun _ => m_in 299 (by decide +kernel) (by decide +kernel)), (fun h => absurd rfl h), (fun h => absurd h (by decide)), (fun h => absurd h (by decide)), ⟨rfl, (by decide +kernel), (by decide +kernel), (by decide +kernel)⟩, (by decide +kernel)⟩
theorem m_tw10 : m_metw 10 := ⟨m_in 354 (by decide +kernel) (by decide +kernel), m_in 59 (by decide +kernel) (by decide +kernel), (fun _ => m_in 353 (by decide +kernel) (by decide +kernel)), (fun h => absurd rfl h), (fun h => absurd h (by decide)), (fun h => absurd h (by decide)), ⟨rfl, (by decide +kernel), (by decide +kernel), (by decide +kernel)⟩, (by decide +kernel)⟩
theorem m_tw11 : m_metw 11 := ⟨m_in 279 (by decide +kernel) (by decide +kernel), m_in 59 (by decide +kernel) (by decide +kernel), (fun _ => m_in 278 (by decide +kernel) (by decide +kernel)), (fun h => absurd rfl h), (fun h => absurd h (by decide)), (fun h => absurd h (by decide)), ⟨rfl, (by decide +kernel), (by decide +kernel), (by decide +kernel)⟩, (by decide +kernel)⟩
theorem m_tw12 : m_metw 12 := ⟨m_in 149 (by decide +kernel) (by decide +kernel), m_in 56 (by decide +kernel) (by decide +kernel), (fun h => absurd h (by decide)), (fun _ => m_in 148 (by decide +kernel) (by decide +kernel)), (fun h => absurd h (by decide)), (fun _ => ⟨rfl, rfl⟩), ⟨rfl, (by decide +kernel), (by decide +kernel), (by decide +kernel)⟩, (by decide +kernel)⟩
theorem m_tw13 : m_metw 13 := ⟨m_in 401 (by decide +kernel) (by decide +kernel), m_in 56 (by decide +kernel) (by decide +kernel), (fun h => absurd h (by decide)), (fun _ => m_in 399 (by decide +kernel) (by decide +kernel)), (fun _ => m_in 400 (by decide +kernel) (by decide +kernel)), (fun h => absurd h (by decide)), ⟨rfl, (by decide +kernel), (by decide +kernel), (by decide +kernel)⟩, (by decide +kernel)⟩
theorem m_tw14 : m_metw 14 := ⟨m_in 405 (by decide +kernel) (by decide +kernel), m_in 56 (by decide +kernel) (by decide +kernel), (fun h => absurd h (by decide)), (fun _ => m_in 404 (by decide +kernel) (by decide +kernel)), (fun _ => m_in 5 (by decide +kernel) (by decide +kernel)), (fun h => absurd h (by decide)), ⟨rfl, (by decide +kernel), (by decide +kernel), (by decide +kernel)⟩, (by decide +kernel)⟩
theorem m_tw15 : m_metw 15 := ⟨m_in 415 (by decide +kernel) (by decide +kernel), m_in 56 (by decide +kernel) (by decide +kernel), (fun h => absurd h (by decide)), (fun _ => m_in 414 (by decide +kernel) (by decide +kernel)), (fun _ => m_in 6 (by decide +kernel) (by decide +kernel)), (fun h => absurd h (by decide)), ⟨rfl, (by decide +kernel), (by decide +kernel), (by decide +kernel)⟩, (by decide +kernel)⟩
theorem m_tw16 : m_metw 16 := ⟨m_in 419 (by decide +kernel) (by decide +kernel), m_in 56 (by decide +kernel) (by decide +kernel), (fun h => absurd h (by decide)), (fun _ => m_in 418 (by decide +kernel) (by decide +kernel)), (fun _ => m_in 7 (by decide +kernel) (by decide +kernel)), (fun h => absurd h (by decide)), ⟨rfl, (by decide +kernel), (by decide +kernel), (by decide +kernel)⟩, (by decide +kernel)⟩
theorem m_tw17 : m_metw 17 := ⟨m_in 423 (by decide +kernel) (by decide +kernel), m_in 56 (by decide +kernel) (by decide +kernel), (fun h => absurd h (by decide)), (fun _ => m_in 422 (by decide +kernel) (by decide +kernel)), (fun _ => m_in 8 (by decide +kernel) (by decide +kernel)), (fun h => absurd h (by decide)), ⟨rfl, (by decide +kernel), (by decide +kernel), (by decide +kernel)⟩, (by decide +kernel)⟩
theorem m_tw18 : m_metw 18 := ⟨m_in 437 (by decide +kernel) (by decide +kernel), m_in 56 (by decide +kernel) (by decide +kernel), (fun h => absurd h (by decide)), (fun _ => m_in 436 (by decide +kernel) (by decide +kernel)), (fun _ => m_in 11 (by decide +kernel) (by decide +kernel)), (fun h => absurd h (by decide)), ⟨rfl, (by decide +kernel), (by decide +kernel), (by decide +kernel)⟩, (by decide +kernel)⟩
theorem m_tw19 : m_metw 19 := ⟨m_in 429 (by decide +kernel) (by decide +kernel), m_in 56 (by decide +kernel) (by decide +kernel), (fun h => absurd h (by decide)), (fun _ => m_in 428 (by decide +kernel) (by decide +kernel)), (fun _ => m_in 9 (by decide +kernel) (by decide +kernel)), (fun h => absurd h (by decide)), ⟨rfl, (by decide +kernel), (by decide +kernel), (by decide +kernel)⟩, (by decide +kernel)⟩
theorem m_tw20 : m_metw 20 := ⟨m_in 433 (by decide +kernel) (by decide +kernel), m_in 56 (by decide +kernel) (by decide +kernel), (fun h => absurd h (by decide)), (fun _ => m_in 432 (by decide +kernel) (by decide +kernel)), (fun _ => m_in 10 (by decide +kernel) (by decide +kernel)), (fun h => absurd h (by decide)), ⟨rfl, (by decide +kernel), (by decide +kernel), (by decide +kernel)⟩, (by decide +kernel)⟩
theorem m_tw21 : m_metw 21 := ⟨m_in 441 (by decide +kernel) (by decide +kernel), m_in 56 (by decide +kernel) (by decide +kernel), (fun h => absurd h (by decide)), (fun _ => m_in 440 (by decide +kernel) (by decide +kernel)), (fun _ => m_in 12 (by decide +kernel) (by decide +kernel)), (fun h => absurd h (by decide)), ⟨rfl, (by decide +kernel), (by decide +kernel), (by decide +kernel)⟩, (by decide +kernel)⟩
theorem m_tw22 : m_metw 22 := ⟨m_in 74 (by decide +kernel) (by decide +kernel), m_in 52 (by decide +kernel) (by decide +kernel), (fun h => absurd h (by decide)), (fun _ => m_in 73 (by decide +kernel) (by decide +kernel)), (fun h => absurd h (by decide)), (fun _ => ⟨rfl, rfl⟩), ⟨rfl, (by decide +kernel), (by decide +kernel), (by decide +kernel)⟩, (by decide +kernel)⟩
theorem m_tw23 : m_metw 23 := ⟨m_in 409 (by decide +kernel) (by decide +kernel), m_in 52 (by decide +kernel) (by decide +kernel), (fun h => absurd h (by decide)), (fun _ => m_in 407 (by decide +kernel) (by decide +kernel)), (fun _ => m_in 408 (by decide +kernel) (by decide +kernel)), (fun h => absurd h (by decide)), ⟨rfl, (by decide +kernel), (by decide +kernel), (by decide +kernel)⟩, (by decide +kernel)⟩
theorem m_tw24 : m_metw 24 := ⟨m_in 308 (by decide +kernel) (by decide +kernel), m_in 52 (by decide +kernel) (by decide +kernel), (fun h => absurd h (by decide)), (fun _ => m_in 306 (by decide +kernel) (by decide +kernel)), (fun _ => m_in 307 (by decide +kernel) (by decide +kernel)), (fun h => absurd h (by decide)), ⟨rfl, (by decide +kernel), (by decide +kernel), (by decide +kernel)⟩, (by decide +kernel)⟩
theorem m_tw25 : m_metw 25 := ⟨m_in 351 (by decide +kernel) (by decide +kernel), m_in 52 (by decide +kernel) (by decide +kernel), (fun h => absurd h (by decide)), (fun _ => m_in 349 (by decide +kernel) (by decide +kernel)), (fun _ => m_in 350 (by decide +kernel) (by decide +kernel)), (fun h => absurd h (by decide)), ⟨rfl, (by decide +kernel), (by decide +kernel), (by decide +kernel)⟩, (by decide +kernel)⟩
theorem m_tw26 : m_metw 26 := ⟨m_in 312 (by decide +kernel) (by decide +kernel), m_in 52 (by decide +kernel) (by decide +kernel), (fun h => absurd h (by decide)), (fun _ => m_in 310 (by decide +kernel) (by decide +kernel)), (fun _ => m_in 311 (by decide +kernel) (by decide +kernel)), (fun h => absurd h (by decide)), ⟨rfl, (by decide +kernel), (by decide +kernel), (by decide +kernel)⟩, (by decide +kernel)⟩
theorem m_tw27 : m_metw 27 := ⟨m_in 323 (by decide +kernel) (by decide +kernel), m_in 52 (by decide +kernel) (by decide +kernel), (fun h => absurd h (by decide)), (fun _ => m_in 321 (by decide +kernel) (by decide +kernel)), (fun _ => m_in 322 (by decide +kernel) (by decide +kernel)), (fun h => absurd h (by decide)), ⟨rfl, (by decide +kernel), (by decide +kernel), (by decide +kernel)⟩, (by decide +kernel)⟩
theorem m_tw28 : m_metw 28 := ⟨m_in 327 (by decide +kernel) (by decide +kernel), m_in 52 (by decide +kernel) (by decide +kernel), (fun h => absurd h (by decide)), (fun _ => m_in 325 (by decide +kernel) (by decide +kernel)), (fun _ => m_in 326 (by decide +kernel) (by decide +kernel)), (fun h => absurd h (by decide)), ⟨rfl, (by decide +kernel), (by decide +kernel), (by decide +kernel)⟩, (by decide +kernel)⟩
theorem m_tw29 : m_metw 29 := ⟨m_in 336 (by decide +kernel) (by decide +kernel), m_in 52 (by decide +kernel) (by decide +kernel), (fun h => absurd h (by decide)), (fun _ => m_in 334 (by decide +kernel) (by decide +kernel)), (fun _ => m_in 335 (by decide +kernel) (by decide +kernel)), (fun h => absurd h (by decide)), ⟨rfl, (by decide +kernel), (by decide +kernel), (by decide +kernel)⟩, (by decide +kernel)⟩
theorem m_tw30 : m_metw 30 := ⟨m_in 342 (by decide +kernel) (by decide +kernel), m_in 52 (by decide +kernel) (by decide +kernel), (fun h => absurd h (by decide)), (fun _ => m_in 340 (by decide +kernel) (by decide +kernel)), (fun _ => m_in 341 (by decide +kernel) (by decide +kernel)), (fun h => absurd h (by decide)), ⟨rfl, (by decide +kernel), (by decide +kernel), (by decide +kernel)⟩, (by decide +kernel)⟩
theorem m_tw31 : m_metw 31 := ⟨m_in 370 (by decide +kernel) (by decide +kernel), m_in 52 (by decide +kernel) (by decide +kernel), (fun h => absurd h (by decide)), (fun _ => m_in 369 (by decide +kernel) (by decide +kernel)), (fun _ => m_in 2 (by decide +kernel) (by decide +kernel)), (fun h => absurd h (by decide)), ⟨rfl, (by decide +kernel), (by decide +kernel), (by decide +kernel)⟩, (by decide +kernel)⟩
theorem m_tw32 : m_metw 32 := ⟨m_in 379 (by decide +kernel) (by decide +kernel), m_in 52 (by decide +kernel) (by decide +kernel), (fun h => absurd h (by decide)), (fun _ => m_in 378 (by decide +kernel) (by decide +kernel)), (fun _ => m_in 4 (by decide +kernel) (by decide +kernel)), (fun h => absurd h (by decide)), ⟨rfl, (by decide +kernel), (by decide +kernel), (by decide +kernel)⟩, (by decide +kernel)⟩
theorem m_tw33 : m_metw 33 := ⟨m_in 374 (by decide +kernel) (by decide +kernel), m_in 52 (by decide +kernel) (by decide +kernel), (fun h => absurd h (by decide)), (fun _ => m_in 373 (by decide +kernel) (by decide +kernel)), (fun _ => m_in 3 (by decide +kernel) (by decide +kernel)), (fun h => absurd h (by decide)), ⟨rfl, (by decide +kernel), (by decide +kernel), (by decide +kernel)⟩, (by decide +kernel)⟩
theorem m_tw34 : m_metw 34 := ⟨m_in 366 (by decide +kernel) (by decide +kernel), m_in 52 (by decide +kernel) (by decide +kernel), (fun h => absurd h (by decide)), (fun _ => m_in 364 (by decide +kernel) (by decide +kernel)), (fun _ => m_in 365 (by decide +kernel) (by decide +kernel)), (fun h => absurd h (by decide)), ⟨rfl, (by decide +kernel), (by decide +kernel), (by decide +kernel)⟩, (by decide +kernel)⟩
theorem m_tw35 : m_metw 35 := ⟨m_in 393 (by decide +kernel) (by decide +kernel), m_in 52 (by decide +kernel) (by decide +kernel), (fun h => absurd h (by decide)), (fun _ => m_in 391 (by decide +kernel) (by decide +kernel)), (fun _ => m_in 392 (by decide +kernel) (by decide +kernel)), (fun h => absurd h (by decide)), ⟨rfl, (by decide +kernel), (by decide +kernel), (by decide +kernel)⟩, (by decide +kernel)⟩
theorem m_tw36 : m_metw 36 := ⟨m_in 80 (by decide +kernel) (by decide +kernel), m_in 53 (by decide +kernel) (by decide +kernel), (fun h => absurd h (by decide)), (fun _ => m_in 79 (by decide +kernel) (by decide +kernel)), (fun h => absurd h (by decide)), (fun _ => ⟨rfl, rfl⟩), ⟨rfl, (by decide +kernel), (by decide +kernel), (by decide +kernel)⟩, (by decide +kernel)⟩
theorem m_tw37 : m_metw 37 := ⟨m_in 226 (by decide +kernel) (by decide +kernel), m_in 53 (by decide +kernel) (by decide +kernel), (fun h => absurd h (by decide)), (fun _ => m_in 224 (by decide +kernel) (by decide +kernel)), (fun _ => m_in 225 (by decide +kernel) (by decide +kernel)), (fun h => absurd h (by decide)), ⟨rfl, (by decide +kernel), (by decide +kernel), (by decide +kernel)⟩, (by decide +kernel)⟩
theorem m_tw38 : m_metw 38 := ⟨m_in 248 (by decide +kernel) (by decide +kernel), m_in 53 (by decide +kernel) (by decide +kernel), (fun h => absurd h (by decide)), (fun _ => m_in 246 (by decide +kernel) (by decide +kernel)), (fun _ => m_in 247 (by decide +kernel) (by decide +kernel)), (fun h => absurd h (by decide)), ⟨rfl, (by decide +kernel), (by decide +kernel), (by decide +kernel)⟩, (by decide +kernel)⟩
theorem m_tw39 : m_metw 39 := ⟨m_in 252 (by decide +kernel) (by decide +kernel), m_in 53 (by decide +kernel) (by decide +kernel), (fun h => absurd h (by decide)), (fun _ => m_in 250 (by decide +kernel) (by decide +kernel)), (fun _ => m_in 251 (by decide +kernel) (by decide +kernel)), (fun h => absurd h (by decide)), ⟨rfl, (by decide +kernel), (by decide +kernel), (by decide +kernel)⟩, (by decide +kernel)⟩
theorem m_tw40 : m_metw 40 := ⟨m_in 230 (by decide +kernel) (by decide +kernel), m_in 53 (by decide +kernel) (by decide +kernel), (fun h => absurd h (by decide)), (fun _ => m_in 228 (by decide +kernel) (by decide +kernel)), (fun _ => m_in 229 (by decide +kernel) (by decide +kernel)), (fun h => absurd h (by decide)), ⟨rfl, (by decide +kernel), (by decide +kernel), (by decide +kernel)⟩, (by decide +kernel)⟩
theorem m_tw41 : m_metw 41 := ⟨m_in 260 (by decide +kernel) (by decide +kernel), m_in 53 (by decide +kernel) (by decide +kernel), (fun h => absurd h (by decide)), (fun _ => m_in 258 (by decide +kernel) (by decide +kernel)), (fun _ => m_in 259 (by decide +kernel) (by decide +kernel)), (fun h => absurd h (by decide)), ⟨rfl, (by decide +kernel), (by decide +kernel), (by decide +kernel)⟩, (by decide +kernel)⟩
theorem m_tw42 : m_metw 42 := ⟨m_in 256 (by decide +kernel) (by decide +kernel), m_in 53 (by decide +kernel) (by decide +kernel), (fun h => absurd h (by decide)), (fun _ => m_in 254 (by decide +kernel) (by decide +kernel)), (fun _ => m_in 255 (by decide +kernel) (by decide +kernel)), (fun h => absurd h (by decide)), ⟨rfl, (by decide +kernel), (by decide +kernel), (by decide +kernel)⟩, (by decide +kernel)⟩
theorem m_tw43 : m_metw 43 := ⟨m_in 92 (by decide +kernel) (by decide +kernel), m_in 53 (by decide +kernel) (by decide +kernel), (fun h => absurd h (by decide)), (fun _ => m_in 90 (by decide +kernel) (by decide +kernel)), (fun _ => m_in 91 (by decide +kernel) (by decide +kernel)), (fun h => absurd h (by decide)), ⟨rfl, (by decide +kernel), (by decide +kernel), (by decide +kernel)⟩, (by decide +kernel)⟩
theorem m_tw44 : m_metw 44 := ⟨m_in 85 (by decide +kernel) (by decide +kernel), m_in 53 (by decide +kernel) (by decide +kernel), (fun h => absurd h (by decide)), (fun _ => m_in 83 (by decide +kernel) (by decide +kernel)), (fun _ => m_in 84 (by decide +kernel) (by decide +kernel)), (fun h => absurd h (by decide)), ⟨rfl, (by decide +kernel), (by decide +kernel), (by decide +kernel)⟩, (by decide +kernel)⟩
theorem m_tw45 : m_metw 45 := ⟨m_in 214 (by decide +kernel) (by decide +kernel), m_in 53 (by decide +kernel) (by decide +kernel), (fun h => absurd h (by decide)), (fun _ => m_in 212 (by decide +kernel) (by decide +kernel)), (fun _ => m_in 213 (by decide +kernel) (by decide +kernel)), (fun h => absurd h (by decide)), ⟨rfl, (by decide +kernel), (by decide +kernel), (by decide +kernel)⟩, (by decide +kernel)⟩
theorem m_tw46 : m_metw 46 := ⟨m_in 239 (by decide +kernel) (by decide +kernel), m_in 53 (by decide +kernel) (by decide +kernel), (fun h => absurd h (by decide)), (fun _ => m_in 237 (by decide +kernel) (by decide +kernel)), (fun _ => m_in 238 (by decide +kernel) (by decide +kernel)), (fun h => absurd h (by decide)), ⟨rfl, (by decide +kernel), (by decide +kernel), (by decide +kernel)⟩, (by decide +kernel)⟩
theorem m_tw47 : m_metw 47 := ⟨m_in 459 (by decide +kernel) (by decide +kernel), m_in 53 (by decide +kernel) (by decide +kernel), (fun h => absurd h (by decide)), (fun _ => m_in 457 (by decide +kernel) (by decide +kernel)), (fun _ => m_in 458 (by decide +kernel) (by decide +kernel)), (fun h => absurd h (by decide)), ⟨rfl, (by decide +kernel), (by decide +kernel), (by decide +kernel)⟩, (by decide +kernel)⟩
theorem m_tw48 : m_metw 48 := ⟨m_in 463 (by decide +kernel) (by decide +kernel), m_in 53 (by decide +kernel) (by decide +kernel), (fun h => absurd h (by decide)), (fun _ => m_in 461 (by decide +kernel) (by decide +kernel)), (fun _ => m_in 462 (by decide +kernel) (by decide +kernel)), (fun h => absurd h (by decide)), ⟨rfl, (by decide +kernel), (by decide +kernel), (by decide +kernel)⟩, (by decide +kernel)⟩
theorem m_tw49 : m_metw 49 := ⟨m_in 218 (by decide +kernel) (by decide +kernel), m_in 53 (by decide +kernel) (by decide +kernel), (fun h => absurd h (by decide)), (fun _ => m_in 217 (by decide +kernel) (by decide +kernel)), (fun _ => m_in 1 (by decide +kernel) (by decide +kernel)), (fun h => absurd h (by decide)), ⟨rfl, (by decide +kernel), (by decide +kernel), (by decide +kernel)⟩, (by decide +kernel)⟩
theorem m_tw50 : m_metw 50 := ⟨m_in 88 (by decide +kernel) (by decide +kernel), m_in 53 (by decide +kernel) (by decide +kernel), (fun _ => m_in 87 (by decide +kernel) (by decide +kernel)), (fun h => absurd rfl h), (fun h => absurd h (by decide)), (fun h => absurd h (by decide)), ⟨rfl, (by decide +kernel), (by decide +kernel), (by decide +kernel)⟩, (by decide +kernel)⟩
theorem m_tw51 : m_metw 51 := ⟨m_in 134 (by decide +kernel) (by decide +kernel), m_in 55 (by decide +kernel) (by decide +kernel), (fun h => absurd h (by decide)), (fun _ => m_in 133 (by decide +kernel) (by decide +kernel)), (fun h => absurd h (by decide)), (fun _ => ⟨rfl, rfl⟩), ⟨rfl, (by decide +kernel), (by decide +kernel), (by decide +kernel)⟩, (by decide +kernel)⟩
theorem m_tw52 : m_metw 52 := ⟨m_in 479 (by decide +kernel) (by decide +kernel), m_in 55 (by decide +kernel) (by decide +kernel), (fun h => absurd h (by decide)), (fun _ => m_in 477 (by decide +kernel) (by decide +kernel)), (fun _ => m_in 478 (by decide +kernel) (by decide +kernel)), (fun h => absurd h (by decide)), ⟨rfl, (by decide +kernel), (by decide +kernel), (by decide +kernel)⟩, (by decide +kernel)⟩
theorem m_tw53 : m_metw 53 := ⟨m_in 492 (by decide +kernel) (by decide +kernel), m_in 55 (by decide +kernel) (by decide +kernel), (fun h => absurd h (by decide)), (fun _ => m_in 490 (by decide +kernel) (by decide +kernel)), (fun _ => m_in 491 (by decide +kernel) (by decide +kernel)), (fun h => absurd h (by decide)), ⟨rfl, (by decide +kernel), (by decide +kernel), (by decide +kernel)⟩, (by decide +kernel)⟩
theorem m_tw54 : m_metw 54 := ⟨m_in 496 (by decide +kernel) (by decide +kernel), m_in 55 (by decide +kernel) (by decide +kernel), (fun h => absurd h (by decide)), (fun _ => m_in 494 (by decide +kernel) (by decide +kernel)), (fun _ => m_in 495 (by decide +kernel) (by decide +kernel)), (fun h => absurd h (by decide)), ⟨rfl, (by decide +kernel), (by decide +kernel), (by decide +kernel)⟩, (by decide +kernel)⟩
theorem m_tw55 : m_metw 55 := ⟨m_in 514 (by decide +kernel) (by decide +kernel), m_in 55 (by decide +kernel) (by decide +kernel), (fun h => absurd h (by decide)), (fun _ => m_in 512 (by decide +kernel) (by decide +kernel)), (fun _ => m_in 513 (by decide +kernel) (by decide +kernel)), (fun h => absurd h (by decide)), ⟨rfl, (by decide +kernel), (by decide +kernel), (by decide +kernel)⟩, (by decide +kernel)⟩
theorem m_tw56 : m_metw 56 := ⟨m_in 500 (by decide +kernel) (by decide +kernel), m_in 55 (by decide +kernel) (by decide +kernel), (fun h => absurd h (by decide)), (fun _ => m_in 499 (by decide +kernel) (by decide +kernel)), (fun _ => m_in 13 (by decide +kernel) (by decide +kernel)), (fun h => absurd h (by decide)), ⟨rfl, (by decide +kernel), (by decide +kernel), (by decide +kernel)⟩, (by decide +kernel)⟩
theorem m_tw57 : m_metw 57 := ⟨m_in 504 (by decide +kernel) (by decide +kernel), m_in 55 (by decide +kernel) (by decide +kernel), (fun h => absurd h (by decide)), (fun _ => m_in 503 (by decide +kernel) (by decide +kernel)), (fun _ => m_in 14 (by decide +kernel) (by decide +kernel)), (fun h => absurd h (by decide)), ⟨rfl, (by decide +kernel), (by decide +kernel), (by decide +kernel)⟩, (by decide +kernel)⟩
theorem m_tw58 : m_metw 58 := ⟨m_in 66 (by decide +kernel) (by decide +kernel), m_in 51 (by decide +kernel) (by decide +kernel), (fun h => absurd h (by decide)), (fun _ => m_in 65 (by decide +kernel) (by decide +kernel)), (fun h => absurd h (by decide)), (fun _ => ⟨rfl, rfl⟩), ⟨rfl, (by decide +kernel), (by decide +kernel), (by decide +kernel)⟩, (by decide +kernel)⟩
theorem m_tw59 : m_metw 59 := ⟨m_in 189 (by decide +kernel) (by decide +kernel), m_in 51 (by decide +kernel) (by decide +kernel), (fun h => absurd h (by decide)), (fun _ => m_in 187 (by decide +kernel) (by decide +kernel)), (fun _ => m_in 188 (by decide +kernel) (by decide +kernel)), (fun h => absurd h (by decide)), ⟨rfl, (by decide +kernel), (by decide +kernel), (by decide +kernel)⟩, (by decide +kernel)⟩
theorem m_tw60 : m_metw 60 := ⟨m_in 209 (by decide +kernel) (by decide +kernel), m_in 51 (by decide +kernel) (by decide +kernel), (fun h => absurd h (by decide)), (fun _ => m_in 207 (by decide +kernel) (by decide +kernel)), (fun _ => m_in 208 (by decide +kernel) (by decide +kernel)), (fun h => absurd h (by decide)), ⟨rfl, (by decide +kernel), (by decide +kernel), (by decide +kernel)⟩, (by decide +kernel)⟩
theorem m_tw61 : m_metw 61 := ⟨m_in 222 (by decide +kernel) (by decide +kernel), m_in 51 (by decide +kernel) (by decide +kernel), (fun h => absurd h (by decide)), (fun _ => m_in 220 (by decide +kernel) (by decide +kernel)), (fun _ => m_in 221 (by decide +kernel) (by decide +kernel)), (fun h => absurd h (by decide)), ⟨rfl, (by decide +kernel), (by decide +kernel), (by decide +kernel)⟩, (by decide +kernel)⟩
theorem m_tw62 : m_metw 62 := ⟨m_in 235 (by decide +kernel) (by decide +kernel), m_in 51 (by decide +kernel) (by decide +kernel), (fun h => absurd h (by decide)), (fun _ => m_in 233 (by decide +kernel) (by decide +kernel)), (fun _ => m_in 234 (by decide +kernel) (by decide +kernel)), (fun h => absurd h (by decide)), ⟨rfl, (by decide +kernel), (by decide +kernel), (by decide +kernel)⟩, (by decide +kernel)⟩
theorem m_tw63 : m_metw 63 := ⟨m_in 244 (by decide +kernel) (by decide +kernel), m_in 51 (by decide +kernel) (by decide +kernel), (fun h => absurd h (by decide)), (fun _ => m_in 242 (by decide +kernel) (by decide +kernel)), (fun _ => m_in 243 (by decide +kernel) (by decide +kernel)), (fun h => absurd h (by decide)), ⟨rfl, (by decide +kernel), (by decide +kernel), (by decide +kernel)⟩, (by decide +kernel)⟩
theorem m_tw64 : m_metw 64 := ⟨m_in 268 (by decide +kernel) (by decide +kernel), m_in 51 (by decide +kernel) (by decide +kernel), (fun h => absurd h (by decide)), (fun _ => m_in 266 (by decide +kernel) (by decide +kernel)), (fun _ => m_in 267 (by decide +kernel) (by decide +kernel)), (fun h => absurd h (by decide)), ⟨rfl, (by decide +kernel), (by decide +kernel), (by decide +kernel)⟩, (by decide +kernel)⟩
theorem m_tw65 : m_metw 65 := ⟨m_in 294 (by decide +kernel) (by decide +kernel), m_in 51 (by decide +kernel) (by decide +kernel), (fun h => absurd h (by decide)), (fun _ => m_in 292 (by decide +kernel) (by decide +kernel)), (fun _ => m_in 293 (by decide +kernel) (by decide +kernel)), (fun h => absurd h (by decide)), ⟨rfl, (by decide +kernel), (by decide +kernel), (by decide +kernel)⟩, (by decide +kernel)⟩
theorem m_tw66 : m_metw 66 := ⟨m_in 304 (by decide +kernel) (by decide +kernel), m_in 51 (by decide +kernel) (by decide +kernel), (fun h => absurd h (by decide)), (fun _ => m_in 302 (by decide +kernel) (by decide +kernel)), (fun _ => m_in 303 (by decide +kernel) (by decide +kernel)), (fun h => absurd h (by decide)), ⟨rfl, (by decide +kernel), (by decide +kernel), (by decide +kernel)⟩, (by decide +kernel)⟩
theorem m_tw67 : m_metw 67 := ⟨m_in 319 (by decide +kernel) (by decide +kernel), m_in 51 (by decide +kernel) (by decide +kernel), (fun h => absurd h (by decide)), (fun _ => m_in 317 (by decide +kernel) (by decide +kernel)), (fun _ => m_in 318 (by decide +kernel) (by decide +kernel)), (fun h => absurd h (by decide)), ⟨rfl, (by decide +kernel), (by decide +kernel), (by decide +kernel)⟩, (by decide +kernel)⟩
theorem m_tw68 : m_metw 68 := ⟨m_in 332 (by decide +kernel) (by decide +kernel), m_in 51 (by decide +kernel) (by decide +kernel), (fun h => absurd h (by decide)), (fun _ => m_in 330 (by decide +kernel) (by decide +kernel)), (fun _ => m_in 331 (by decide +kernel) (by decide +kernel)), (fun h => absurd h (by decide)), ⟨rfl, (by decide +kernel), (by decide +kernel), (by decide +kernel)⟩, (by decide +kernel)⟩
theorem m_tw69 : m_metw 69 := ⟨m_in 347 (by decide +kernel) (by decide +kernel), m_in 51 (by decide +kernel) (by decide +kernel), (fun h => absurd h (by decide)), (fun _ => m_in 345 (by decide +kernel) (by decide +kernel)), (fun _ => m_in 346 (by decide +kernel) (by decide +kernel)), (fun h => absurd h (by decide)), ⟨rfl, (by decide +kernel), (by decide +kernel), (by decide +kernel)⟩, (by decide +kernel)⟩
theorem m_tw70 : m_metw 70 := ⟨m_in 359 (by decide +kernel) (by decide +kernel), m_in 51 (by decide +kernel) (by decide +kernel), (fun h => absurd h (by decide)), (fun _ => m_in 357 (by decide +kernel) (by decide +kernel)), (fun _ => m_in 358 (by decide +kernel) (by decide +kernel)), (fun h => absurd h (by decide)), ⟨rfl, (by decide +kernel), (by decide +kernel), (by decide +kernel)⟩, (by decide +kernel)⟩
theorem m_tw71 : m_metw 71 := ⟨m_in 385 (by decide +kernel) (by decide +kernel), m_in 51 (by decide +kernel) (by decide +kernel), (fun h => absurd h (by decide)), (fun _ => m_in 383 (by decide +kernel) (by decide +kernel)), (fun _ => m_in 384 (by decide +kernel) (by decide +kernel)), (fun h => absurd h (by decide)), ⟨rfl, (by decide +kernel), (by decide +kernel), (by decide +kernel)⟩, (by decide +kernel)⟩
theorem m_tw72 : m_metw 72 := ⟨m_in 389 (by decide +kernel) (by decide +kernel), m_in 51 (by decide +kernel) (by decide +kernel), (fun h => absurd h (by decide)), (fun _ => m_in 387 (by decide +kernel) (by decide +kernel)), (fun _ => m_in 388 (by decide +kernel) (by decide +kernel)), (fun h => absurd h (by decide)), ⟨rfl, (by decide +kernel), (by decide +kernel), (by decide +kernel)⟩, (by decide +kernel)⟩
theorem m_tw73 : m_metw 73 := ⟨m_in 397 (by decide +kernel) (by decide +kernel), m_in 51 (by decide +kernel) (by decide +kernel), (fun h => absurd h (by decide)), (fun _ => m_in 395 (by decide +kernel) (by decide +kernel)), (fun _ => m_in 396 (by decide +kernel) (by decide +kernel)), (fun h => absurd h (by decide)), ⟨rfl, (by decide +kernel), (by decide +kernel), (by decide +kernel)⟩, (by decide +kernel)⟩
theorem m_tw74 : m_metw 74 := ⟨m_in 445 (by decide +kernel) (by decide +kernel), m_in 51 (by decide +kernel) (by decide +kernel), (fun h => absurd h (by decide)), (fun _ => m_in 443 (by decide +kernel) (by decide +kernel)), (fun _ => m_in 444 (by decide +kernel) (by decide +kernel)), (fun h => absurd h (by decide)), ⟨rfl, (by decide +kernel), (by decide +kernel), (by decide +kernel)⟩, (by decide +kernel)⟩
theorem m_tw75 : m_metw 75 := ⟨m_in 454 (by decide +kernel) (by decide +kernel), m_in 51 (by decide +kernel) (by decide +kernel), (fun h => absurd h (by decide)), (fun _ => m_in 452 (by decide +kernel) (by decide +kernel)), (fun _ => m_in 453 (by decide +kernel) (by decide +kernel)), (fun h => absurd h (by decide)), ⟨rfl, (by decide +kernel), (by decide +kernel), (by decide +kernel)⟩, (by decide +kernel)⟩
theorem m_tw76 : m_metw 76 := ⟨m_in 467 (by decide +kernel) (by decide +kernel), m_in 51 (by decide +kernel) (by decide +kernel), (fun h => absurd h (by decide)), (fun _ => m_in 465 (by decide +kernel) (by decide +kernel)), (fun _ => m_in 466 (by decide +kernel) (by decide +kernel)), (fun h => absurd h (by decide)), ⟨rfl, (by decide +kernel), (by decide +kernel), (by decide +kernel)⟩, (by decide +kernel)⟩
theorem m_tw77 : m_metw 77 := ⟨m_in 475 (by decide +kernel) (by decide +kernel), m_in 51 (by decide +kernel) (by decide +kernel), (fun h => absurd h (by decide)), (fun _ => m_in 473 (by decide +kernel) (by decide +kernel)), (fun _ => m_in 474 (by decide +kernel) (by decide +kernel)), (fun h => absurd h (by decide)), ⟨rfl, (by decide +kernel), (by decide +kernel), (by decide +kernel)⟩, (by decide +kernel)⟩
theorem m_tw78 : m_metw 78 := ⟨m_in 484 (by decide +kernel) (by decide +kernel), m_in 51 (by decide +kernel) (by decide +kernel), (fun h => absurd h (by decide)), (fun _ => m_in 482 (by decide +kernel) (by decide +kernel)), (fun _ => m_in 483 (by decide +kernel) (by decide +kernel)), (fun h => absurd h (by decide)), ⟨rfl, (by decide +kernel), (by decide +kernel), (by decide +kernel)⟩, (by decide +kernel)⟩
theorem m_tw79 : m_metw 79 := ⟨m_in 488 (by decide +kernel) (by decide +kernel), m_in 51 (by decide +kernel) (by decide +kernel), (fun h => absurd h (by decide)), (fun _ => m_in 486 (by decide +kernel) (by decide +kernel)), (fun _ => m_in 487 (by decide +kernel) (by decide +kernel)), (fun h => absurd h (by decide)), ⟨rfl, (by decide +kernel), (by decide +kernel), (by decide +kernel)⟩, (by decide +kernel)⟩
theorem m_tw80 : m_metw 80 := ⟨m_in 510 (by decide +kernel) (by decide +kernel), m_in 51 (by decide +kernel) (by decide +kernel), (fun h => absurd h (by decide)), (fun _ => m_in 508 (by decide +kernel) (by decide +kernel)), (fun _ => m_in 509 (by decide +kernel) (by decide +kernel)), (fun h => absurd h (by decide)), ⟨rfl, (by decide +kernel), (by decide +kernel), (by decide +kernel)⟩, (by decide +kernel)⟩
theorem m_tw81 : m_metw 81 := ⟨m_in 192 (by decide +kernel) (by decide +kernel), m_in 51 (by decide +kernel) (by decide +kernel), (fun _ => m_in 191 (by decide +kernel) (by decide +kernel)), (fun h => absurd rfl h), (fun h => absurd h (by decide)), (fun h => absurd h (by decide)), ⟨rfl, (by decide +kernel), (by decide +kernel), (by decide +kernel)⟩, (by decide +kernel)⟩
theorem m_tw82 : m_metw 82 := ⟨m_in 362 (by decide +kernel) (by decide +kernel), m_in 51 (by decide +kernel) (by decide +kernel), (fun _ => m_in 361 (by decide +kernel) (by decide +kernel)), (fun h => absurd rfl h), (fun h => absurd h (by decide)), (fun h => absurd h (by decide)), ⟨rfl, (by decide +kernel), (by decide +kernel), (by decide +kernel)⟩, (by decide +kernel)⟩
theorem m_tw83 : m_metw 83 := ⟨m_in 263 (by decide +kernel) (by decide +kernel), m_in 51 (by decide +kernel) (by decide +kernel), (fun _ => m_in 262 (by decide +kernel) (by decide +kernel)), (fun h => absurd rfl h), (fun h => absurd h (by decide)), (fun h => absurd h (by decide)), ⟨rfl, (by decide +kernel), (by decide +kernel), (by decide +kernel)⟩, (by decide +kernel)⟩
theorem m_tw84 : m_metw 84 := ⟨m_in 449 (by decide +kernel) (by decide +kernel), m_in 51 (by decide +kernel) (by decide +kernel), (fun _ => m_in 448 (by decide +kernel) (by decide +kernel)), (fun h => absurd rfl h), (fun h => absurd h (by decide)), (fun h => absurd h (by decide)), ⟨rfl, (by decide +kernel), (by decide +kernel), (by decide +kernel)⟩, (by decide +kernel)⟩
theorem m_tw85 : m_metw 85 := ⟨m_in 520 (by decide +kernel) (by decide +kernel), m_in 57 (by decide +kernel) (by decide +kernel), (fun h => absurd h (by decide)), (fun _ => m_in 519 (by decide +kernel) (by decide +kernel)), (fun h => absurd h (by decide)), (fun _ => ⟨rfl, rfl⟩), ⟨rfl, (by decide +kernel), (by decide +kernel), (by decide +kernel)⟩, (by decide +kernel)⟩
theorem m_tw86 : m_metw 86 := ⟨m_in 615 (by decide +kernel) (by decide +kernel), m_in 57 (by decide +kernel) (by decide +kernel), (fun _ => m_in 614 (by decide +kernel) (by decide +kernel)), (fun h => absurd rfl h), (fun h => absurd h (by decide)), (fun h => absurd h (by decide)), ⟨rfl, (by decide +kernel), (by decide +kernel), (by decide +kernel)⟩, (by decide +kernel)⟩
theorem m_tw87 : m_metw 87 := ⟨m_in 583 (by decide +kernel) (by decide +kernel), m_in 57 (by decide +kernel) (by decide +kernel), (fun h => absurd h (by decide)), (fun _ => m_in 582 (by decide +kernel) (by decide +kernel)), (fun _ => m_in 18 (by decide +kernel) (by decide +kernel)), (fun h => absurd h (by decide)), ⟨rfl, (by decide +kernel), (by decide +kernel), (by decide +kernel)⟩, (by decide +kernel)⟩
theorem m_tw88 : m_metw 88 := ⟨m_in 604 (by decide +kernel) (by decide +kernel), m_in 57 (by decide +kernel) (by decide +kernel), (fun h => absurd h (by decide)), (fun _ => m_in 603 (by decide +kernel) (by decide +kernel)), (fun _ => m_in 21 (by decide +kernel) (by decide +kernel)), (fun h => absurd h (by decide)), ⟨rfl, (by decide +kernel), (by decide +kernel), (by decide +kernel)⟩, (by decide +kernel)⟩
theorem m_tw89 : m_metw 89 := ⟨m_in 660 (by decide +kernel) (by decide +kernel), m_in 57 (by decide +kernel) (by decide +kernel), (fun h => absurd h (by decide)), (fun _ => m_in 659 (by decide +kernel) (by decide +kernel)), (fun _ => m_in 29 (by decide +kernel) (by decide +kernel)), (fun h => absurd h (by decide)), ⟨rfl, (by decide +kernel), (by decide +kernel), (by decide +kernel)⟩, (by decide +kernel)⟩
theorem m_tw90 : m_metw 90 := ⟨m_in 656 (by decide +kernel) (by decide +kernel), m_in 57 (by decide +kernel) (by decide +kernel), (fun h => absurd h (by decide)), (fun _ => m_in 655 (by decide +kernel) (by decide +kernel)), (fun _ => m_in 28 (by decide +kernel) (by decide +kernel)), (fun h => absurd h (by decide)), ⟨rfl, (by decide +kernel), (by decide +kernel), (by decide +kernel)⟩, (by decide +kernel)⟩
theorem m_tw91 : m_metw 91 := ⟨m_in 619 (by decide +kernel) (by decide +kernel), m_in 57 (by decide +kernel) (by decide +kernel), (fun h => absurd h (by decide)), (fun _ => m_in 618 (by decide +kernel) (by decide +kernel)), (fun _ => m_in 22 (by decide +kernel) (by decide +kernel)), (fun h => absurd h (by decide)), ⟨rfl, (by decide +kernel), (by decide +kernel), (by decide +kernel)⟩, (by decide +kernel)⟩
theorem m_tw92 : m_metw 92 := ⟨m_in 623 (by decide +kernel) (by decide +kernel), m_in 57 (by decide +kernel) (by decide +kernel), (fun h => absurd h (by decide)), (fun _ => m_in 622 (by decide +kernel) (by decide +kernel)), (fun _ => m_in 23 (by decide +kernel) (by decide +kernel)), (fun h => absurd h (by decide)), ⟨rfl, (by decide +kernel), (by decide +kernel), (by decide +kernel)⟩, (by decide +kernel)⟩
theorem m_tw93 : m_metw 93 := ⟨m_in 529 (by decide +kernel) (by decide +kernel), m_in 57 (by decide +kernel) (by decide +kernel), (fun h => absurd h (by decide)), (fun _ => m_in 528 (by decide +kernel) (by decide +kernel)), (fun _ => m_in 16 (by decide +kernel) (by decide +kernel)), (fun h => absurd h (by decide)), ⟨rfl, (by decide +kernel), (by decide +kernel), (by decide +kernel)⟩, (by decide +kernel)⟩
theorem m_tw94 : m_metw 94 := ⟨m_in 596 (by decide +kernel) (by decide +kernel), m_in 57 (by decide +kernel) (by decide +kernel), (fun h => absurd h (by decide)), (fun _ => m_in 595 (by decide +kernel) (by decide +kernel)), (fun _ => m_in 20 (by decide +kernel) (by decide +kernel)), (fun h => absurd h (by decide)), ⟨rfl, (by decide +kernel), (by decide +kernel), (by decide +kernel)⟩, (by decide +kernel)⟩
theorem m_tw95 : m_metw 95 := ⟨m_in 533 (by decide +kernel) (by decide +kernel), m_in 57 (by decide +kernel) (by decide +kernel), (fun h => absurd h (by decide)), (fun _ => m_in 532 (by decide +kernel) (by decide +kernel)), (fun _ => m_in 17 (by decide +kernel) (by decide +kernel)), (fun h => absurd h (by decide)), ⟨rfl, (by decide +kernel), (by decide +kernel), (by decide +kernel)⟩, (by decide +kernel)⟩
theorem m_tw96 : m_metw 96 := ⟨m_in 525 (by decide +kernel) (by decide +kernel), m_in 57 (by decide +kernel) (by decide +kernel), (fun h => absurd h (by decide)), (fun _ => m_in 524 (by decide +kernel) (by decide +kernel)), (fun _ => m_in 15 (by decide +kernel) (by decide +kernel)), (fun h => absurd h (by decide)), ⟨rfl, (by decide +kernel), (by decide +kernel), (by decide +kernel)⟩, (by decide +kernel)⟩
theorem m_tw97 : m_metw 97 := ⟨m_in 578 (by decide +kernel) (by decide +kernel), m_in 57 (by decide +kernel) (by decide +kernel), (fun h => absurd h (by decide)), (fun _ => m_in 576 (by decide +kernel) (by decide +kernel)), (fun _ => m_in 577 (by decide +kernel) (by decide +kernel)), (fun h => absurd h (by decide)), ⟨rfl, (by decide +kernel), (by decide +kernel), (by decide +kernel)⟩, (by decide +kernel)⟩
theorem m_tw98 : m_metw 98 := ⟨m_in 592 (by decide +kernel) (by decide +kernel), m_in 57 (by decide +kernel) (by decide +kernel), (fun h => absurd h (by decide)), (fun _ => m_in 591 (by decide +kernel) (by decide +kernel)), (fun _ => m_in 19 (by decide +kernel) (by decide +kernel)), (fun h => absurd h (by decide)), ⟨rfl, (by decide +kernel), (by decide +kernel), (by decide +kernel)⟩, (by decide +kernel)⟩
theorem m_tw99 : m_metw 99 := ⟨m_in 587 (by decide +kernel) (by decide +kernel), m_in 57 (by decide +kernel) (by decide +kernel), (fun h => absurd h (by decide)), (fun _ => m_in 585 (by decide +kernel) (by decide +kernel)), (fun _ => m_in 586 (by decide +kernel) (by decide +kernel)), (fun h => absurd h (by decide)), ⟨rfl, (by decide +kernel), (by decide +kernel), (by decide +kernel)⟩, (by decide +kernel)⟩
theorem m_tw100 : m_metw 100 := ⟨m_in 600 (by decide +kernel) (by decide +kernel), m_in 57 (by decide +kernel) (by decide +kernel), (fun h => absurd h (by decide)), (fun _ => m_in 598 (by decide +kernel) (by decide +kernel)), (fun _ => m_in 599 (by decide +kernel) (by decide +kernel)), (fun h => absurd h (by decide)), ⟨rfl, (by decide +kernel), (by decide +kernel), (by decide +kernel)⟩, (by decide +kernel)⟩
theorem m_tw101 : m_metw 101 := ⟨m_in 608 (by decide +kernel) (by decide +kernel), m_in 57 (by decide +kernel) (by decide +kernel), (fun h => absurd h (by decide)), (fun _ => m_in 606 (by decide +kernel) (by decide +kernel)), (fun _ => m_in 607 (by decide +kernel) (by decide +kernel)), (fun h => absurd h (by decide)), ⟨rfl, (by decide +kernel), (by decide +kernel), (by decide +kernel)⟩, (by decide +kernel)⟩
theorem m_tw102 : m_metw 102 := ⟨m_in 612 (by decide +kernel) (by decide +kernel), m_in 57 (by decide +kernel) (by decide +kernel), (fun h => absurd h (by decide)), (fun _ => m_in 610 (by decide +kernel) (by decide +kernel)), (fun _ => m_in 611 (by decide +kernel) (by decide +kernel)), (fun h => absurd h (by decide)), ⟨rfl, (by decide +kernel), (by decide +kernel), (by decide +kernel)⟩, (by decide +kernel)⟩
theorem m_tw103 : m_metw 103 := ⟨m_in 640 (by decide +kernel) (by decide +kernel), m_in 57 (by decide +kernel) (by decide +kernel), (fun h => absurd h (by decide)), (fun _ => m_in 639 (by decide +kernel) (by decide +kernel)), (fun _ => m_in 26 (by decide +kernel) (by decide +kernel)), (fun h => absurd h (by decide)), ⟨rfl, (by decide +kernel), (by decide +kernel), (by decide +kernel)⟩, (by decide +kernel)⟩
theorem m_tw104 : m_metw 104 := ⟨m_in 636 (by decide +kernel) (by decide +kernel), m_in 57 (by decide +kernel) (by decide +kernel), (fun h => absurd h (by decide)), (fun _ => m_in 635 (by decide +kernel) (by decide +kernel)), (fun _ => m_in 25 (by decide +kernel) (by decide +kernel)), (fun h => absurd h (by decide)), ⟨rfl, (by decide +kernel), (by decide +kernel), (by decide +kernel)⟩, (by decide +kernel)⟩
theorem m_tw105 : m_metw 105 := ⟨m_in 632 (by decide +kernel) (by decide +kernel), m_in 57 (by decide +kernel) (by decide +kernel), (fun h => absurd h (by decide)), (fun _ => m_in 631 (by decide +kernel) (by decide +kernel)), (fun _ => m_in 24 (by decide +kernel) (by decide +kernel)), (fun h => absurd h (by decide)), ⟨rfl, (by decide +kernel), (by decide +kernel), (by decide +kernel)⟩, (by decide +kernel)⟩
theorem m_tw106 : m_metw 106 := ⟨m_in 628 (by decide +kernel) (by decide +kernel), m_in 57 (by decide +kernel) (by decide +kernel), (fun h => absurd h (by decide)), (fun _ => m_in 626 (by decide +kernel) (by decide +kernel)), (fun _ => m_in 627 (by decide +kernel) (by decide +kernel)), (fun h => absurd h (by decide)), ⟨rfl, (by decide +kernel), (by decide +kernel), (by decide +kernel)⟩, (by decide +kernel)⟩
theorem m_tw107 : m_metw 107 := ⟨m_in 648 (by decide +kernel) (by decide +kernel), m_in 57 (by decide +kernel) (by decide +kernel), (fun h => absurd h (by decide)), (fun _ => m_in 647 (by decide +kernel) (by decide +kernel)), (fun _ => m_in 27 (by decide +kernel) (by decide +kernel)), (fun h => absurd h (by decide)), ⟨rfl, (by decide +kernel), (by decide +kernel), (by decide +kernel)⟩, (by decide +kernel)⟩
theorem m_tw108 : m_metw 108 := ⟨m_in 644 (by decide +kernel) (by decide +kernel), m_in 57 (by decide +kernel) (by decide +kernel), (fun h => absurd h (by decide)), (fun _ => m_in 642 (by decide +kernel) (by decide +kernel)), (fun _ => m_in 643 (by decide +kernel) (by decide +kernel)), (fun h => absurd h (by decide)), ⟨rfl, (by decide +kernel), (by decide +kernel), (by decide +kernel)⟩, (by decide +kernel)⟩
theorem m_tw109 : m_metw 109 := ⟨m_in 664 (by decide +kernel) (by decide +kernel), m_in 57 (by decide +kernel) (by decide +kernel), (fun h => absurd h (by decide)), (fun _ => m_in 663 (by decide +kernel) (by decide +kernel)), (fun _ => m_in 30 (by decide +kernel) (by decide +kernel)), (fun h => absurd h (by decide)), ⟨rfl, (by decide +kernel), (by decide +kernel), (by decide +kernel)⟩, (by decide +kernel)⟩
theorem m_tw110 : m_metw 110 := ⟨m_in 676 (by decide +kernel) (by decide +kernel), m_in 57 (by decide +kernel) (by decide +kernel), (fun h => absurd h (by decide)), (fun _ => m_in 675 (by decide +kernel) (by decide +kernel)), (fun _ => m_in 32 (by decide +kernel) (by decide +kernel)), (fun h => absurd h (by decide)), ⟨rfl, (by decide +kernel), (by decide +kernel), (by decide +kernel)⟩, (by decide +kernel)⟩
theorem m_tw111 : m_metw 111 := ⟨m_in 672 (by decide +kernel) (by decide +kernel), m_in 57 (by decide +kernel) (by decide +kernel), (fun h => absurd h (by decide)), (fun _ => m_in 671 (by decide +kernel) (by decide +kernel)), (fun _ => m_in 31 (by decide +kernel) (by decide +kernel)), (fun h => absurd h (by decide)), ⟨rfl, (by decide +kernel), (by decide +kernel), (by decide +kernel)⟩, (by decide +kernel)⟩
theorem m_tw112 : m_metw 112 := ⟨m_in 695 (by decide +kernel) (by decide +kernel), m_in 57 (by decide +kernel) (by decide +kernel), (fun _ => m_in 694 (by decide +kernel) (by decide +kernel)), (fun h => absurd rfl h), (fun h => absurd h (by decide)), (fun h => absurd h (by decide)), ⟨rfl, (by decide +kernel), (by decide +kernel), (by decide +kernel)⟩, (by decide +kernel)⟩
theorem m_tw113 : m_metw 113 := ⟨m_in 710 (by decide +kernel) (by decide +kernel), m_in 57 (by decide +kernel) (by decide +kernel), (fun _ => m_in 709 (by decide +kernel) (by decide +kernel)), (fun h => absurd rfl h), (fun h => absurd h (by decide)), (fun h => absurd h (by decide)), ⟨rfl, (by decide +kernel), (by decide +kernel), (by decide +kernel)⟩, (by decide +kernel)⟩
theorem m_tw114 : m_metw 114 := ⟨m_in 692 (by decide +kernel) (by decide +kernel), m_in 57 (by decide +kernel) (by decide +kernel), (fun h => absurd h (by decide)), (fun _ => m_in 691 (by decide +kernel) (by decide +kernel)), (fun _ => m_in 35 (by decide +kernel) (by decide +kernel)), (fun h => absurd h (by decide)), ⟨rfl, (by decide +kernel), (by decide +kernel), (by decide +kernel)⟩, (by decide +kernel)⟩
theorem m_tw115 : m_metw 115 := ⟨m_in 688 (by decide +kernel) (by decide +kernel), m_in 57 (by decide +kernel) (by decide +kernel), (fun h => absurd h (by decide)), (fun _ => m_in 687 (by decide +kernel) (by decide +kernel)), (fun _ => m_in 34 (by decide +kernel) (by decide +kernel)), (fun h => absurd h (by decide)), ⟨rfl, (by decide +kernel), (by decide +kernel), (by decide +kernel)⟩, (by decide +kernel)⟩
theorem m_tw116 : m_metw 116 := ⟨m_in 699 (by decide +kernel) (by decide +kernel), m_in 57 (by decide +kernel) (by decide +kernel), (fun h => absurd h (by decide)), (fun _ => m_in 698 (by decide +kernel) (by decide +kernel)), (fun _ => m_in 36 (by decide +kernel) (by decide +kernel)), (fun h => absurd h (by decide)), ⟨rfl, (by decide +kernel), (by decide +kernel), (by decide +kernel)⟩, (by decide +kernel)⟩
theorem m_tw117 : m_metw 117 := ⟨m_in 707 (by decide +kernel) (by decide +kernel), m_in 57 (by decide +kernel) (by decide +kernel), (fun h => absurd h (by decide)), (fun _ => m_in 706 (by decide +kernel) (by decide +kernel)), (fun _ => m_in 37 (by decide +kernel) (by decide +kernel)), (fun h => absurd h (by decide)), ⟨rfl, (by decide +kernel), (by decide +kernel), (by decide +kernel)⟩, (by decide +kernel)⟩
theorem m_tw118 : m_metw 118 := ⟨m_in 718 (by decide +kernel) (by decide +kernel), m_in 57 (by decide +kernel) (by decide +kernel), (fun h => absurd h (by decide)), (fun _ => m_in 717 (by decide +kernel) (by decide +kernel)), (fun _ => m_in 38 (by decide +kernel) (by decide +kernel)), (fun h => absurd h (by decide)), ⟨rfl, (by decide +kernel), (by decide +kernel), (by decide +kernel)⟩, (by decide +kernel)⟩
theorem m_tw119 : m_metw 119 := ⟨m_in 652 (by decide +kernel) (by decide +kernel), m_in 57 (by decide +kernel) (by decide +kernel), (fun h => absurd h (by decide)), (fun _ => m_in 650 (by decide +kernel) (by decide +kernel)), (fun _ => m_in 651 (by decide +kernel) (by decide +kernel)), (fun h => absurd h (by decide)), ⟨rfl, (by decide +kernel), (by decide +kernel), (by decide +kernel)⟩, (by decide +kernel)⟩
theorem m_tw120 : m_metw 120 := ⟨m_in 680 (by decide +kernel) (by decide +kernel), m_in 57 (by decide +kernel) (by decide +kernel), (fun h => absurd h (by decide)), (fun _ => m_in 679 (by decide +kernel) (by decide +kernel)), (fun _ => m_in 33 (by decide +kernel) (by decide +kernel)), (fun h => absurd h (by decide)), ⟨rfl, (by decide +kernel), (by decide +kernel), (by decide +kernel)⟩, (by decide +kernel)⟩
theorem m_tw121 : m_metw 121 := ⟨m_in 668 (by decide +kernel) (by decide +kernel), m_in 57 (by decide +kernel) (by decide +kernel), (fun h => absurd h (by decide)), (fun _ => m_in 666 (by decide +kernel) (by decide +kernel)), (fun _ => m_in 667 (by decide +kernel) (by decide +kernel)), (fun h => absurd h (by decide)), ⟨rfl, (by decide +kernel), (by decide +kernel), (by decide +kernel)⟩, (by decide +kernel)⟩
theorem m_tw122 : m_metw 122 := ⟨m_in 684 (by decide +kernel) (by decide +kernel), m_in 57 (by decide +kernel) (by decide +kernel), (fun h => absurd h (by decide)), (fun _ => m_in 682 (by decide +kernel) (by decide +kernel)), (fun _ => m_in 683 (by decide +kernel) (by decide +kernel)), (fun h => absurd h (by decide)), ⟨rfl, (by decide +kernel), (by decide +kernel), (by decide +kernel)⟩, (by decide +kernel)⟩
theorem m_tw123 : m_metw 123 := ⟨m_in 703 (by decide +kernel) (by decide +kernel), m_in 57 (by decide +kernel) (by decide +kernel), (fun h => absurd h (by decide)), (fun _ => m_in 701 (by decide +kernel) (by decide +kernel)), (fun _ => m_in 702 (by decide +kernel) (by decide +kernel)), (fun h => absurd h (by decide)), ⟨rfl, (by decide +kernel), (by decide +kernel), (by decide +kernel)⟩, (by decide +kernel)⟩
theorem m_tw124 : m_metw 124 := ⟨m_in 730 (by decide +kernel) (by decide +kernel), m_in 57 (by decide +kernel) (by decide +kernel), (fun h => absurd h (by decide)), (fun _ => m_in 729 (by decide +kernel) (by decide +kernel)), (fun _ => m_in 41 (by decide +kernel) (by decide +kernel)), (fun h => absurd h (by decide)), ⟨rfl, (by decide +kernel), (by decide +kernel), (by decide +kernel)⟩, (by decide +kernel)⟩
theorem m_tw125 : m_metw 125 := ⟨m_in 734 (by decide +kernel) (by decide +kernel), m_in 57 (by decide +kernel) (by decide +kernel), (fun h => absurd h (by decide)), (fun _ => m_in 733 (by decide +kernel) (by decide +kernel)), (fun _ => m_in 42 (by decide +kernel) (by decide +kernel)), (fun h => absurd h (by decide)), ⟨rfl, (by decide +kernel), (by decide +kernel), (by decide +kernel)⟩, (by decide +kernel)⟩
theorem m_tw126 : m_metw 126 := ⟨m_in 726 (by decide +kernel) (by decide +kernel), m_in 57 (by decide +kernel) (by decide +kernel), (fun h => absurd h (by decide)), (fun _ => m_in 725 (by decide +kernel) (by decide +kernel)), (fun _ => m_in 40 (by decide +kernel) (by decide +kernel)), (fun h => absurd h (by decide)), ⟨rfl, (by decide +kernel), (by decide +kernel), (by decide +kernel)⟩, (by decide +kernel)⟩
theorem m_tw127 : m_metw 127 := ⟨m_in 722 (by decide +kernel) (by decide +kernel), m_in 57 (by decide +kernel) (by decide +kernel), (fun h => absurd h (by decide)), (fun _ => m_in 721 (by decide +kernel) (by decide +kernel)), (fun _ => m_in 39 (by decide +kernel) (by decide +kernel)), (fun h => absurd h (by decide)), ⟨rfl, (by decide +kernel), (by decide +kernel), (by decide +kernel)⟩, (by decide +kernel)⟩
theorem m_tw128 : m_metw 128 := ⟨m_in 714 (by decide +kernel) (by decide +kernel), m_in 57 (by decide +kernel) (by decide +kernel), (fun h => absurd h (by decide)), (fun _ => m_in 712 (by decide +kernel) (by decide +kernel)), (fun _ => m_in 713 (by decide +kernel) (by decide +kernel)), (fun h => absurd h (by decide)), ⟨rfl, (by decide +kernel), (by decide +kernel), (by decide +kernel)⟩, (by decide +kernel)⟩
theorem m_tw129 : m_metw 129 := ⟨m_in 738 (by decide +kernel) (by decide +kernel), m_in 57 (by decide +kernel) (by decide +kernel), (fun h => absurd h (by decide)), (fun _ => m_in 736 (by decide +kernel) (by decide +kernel)), (fun _ => m_in 737 (by decide +kernel) (by decide +kernel)), (fun h => absurd h (by decide)), ⟨rfl, (by decide +kernel), (by decide +kernel), (by decide +kernel)⟩, (by decide +kernel)⟩
theorem m_tw130 : m_metw 130 := ⟨m_in 742 (by decide +kernel) (by decide +kernel), m_in 57 (by decide +kernel) (by decide +kernel), (fun h => absurd h (by decide)), (fun _ => m_in 740 (by decide +kernel) (by decide +kernel)), (fun _ => m_in 741 (by decide +kernel) (by decide +kernel)), (fun h => absurd h (by decide)), ⟨rfl, (by decide +kernel), (by decide +kernel), (by decide +kernel)⟩, (by decide +kernel)⟩
theorem m_tw131 : m_metw 131 := ⟨m_in 754 (by decide +kernel) (by decide +kernel), m_in 57 (by decide +kernel) (by decide +kernel), (fun h => absurd h (by decide)), (fun _ => m_in 753 (by decide +kernel) (by decide +kernel)), (fun _ => m_in 44 (by decide +kernel) (by decide +kernel)), (fun h => absurd h (by decide)), ⟨rfl, (by decide +kernel), (by decide +kernel), (by decide +kernel)⟩, (by decide +kernel)⟩
theorem m_tw132 : m_metw 132 := ⟨m_in 750 (by decide +kernel) (by decide +kernel), m_in 57 (by decide +kernel) (by decide +kernel), (fun h => absurd h (by decide)), (fun _ => m_in 749 (by decide +kernel) (by decide +kernel)), (fun _ => m_in 43 (by decide +kernel) (by decide +kernel)), (fun h => absurd h (by decide)), ⟨rfl, (by decide +kernel), (by decide +kernel), (by decide +kernel)⟩, (by decide +kernel)⟩
theorem m_tw133 : m_metw 133 := ⟨m_in 758 (by decide +kernel) (by decide +kernel), m_in 57 (by decide +kernel) (by decide +kernel), (fun h => absurd h (by decide)), (fun _ => m_in 757 (by decide +kernel) (by decide +kernel)), (fun _ => m_in 45 (by decide +kernel) (by decide +kernel)), (fun h => absurd h (by decide)), ⟨rfl, (by decide +kernel), (by decide +kernel), (by decide +kernel)⟩, (by decide +kernel)⟩
theorem m_tw134 : m_metw 134 := ⟨m_in 746 (by decide +kernel) (by decide +kernel), m_in 57 (by decide +kernel) (by decide +kernel), (fun h => absurd h (by decide)), (fun _ => m_in 744 (by decide +kernel) (by decide +kernel)), (fun _ => m_in 745 (by decide +kernel) (by decide +kernel)), (fun h => absurd h (by decide)), ⟨rfl, (by decide +kernel), (by decide +kernel), (by decide +kernel)⟩, (by decide +kernel)⟩
theorem m_tw135 : m_metw 135 := ⟨m_in 766 (by decide +kernel) (by decide +kernel), m_in 57 (by decide +kernel) (by decide +kernel), (fun h => absurd h (by decide)), (fun _ => m_in 765 (by decide +kernel) (by decide +kernel)), (fun _ => m_in 46 (by decide +kernel) (by decide +kernel)), (fun h => absurd h (by decide)), ⟨rfl, (by decide +kernel), (by decide +kernel), (by decide +kernel)⟩, (by decide +kernel)⟩
theorem m_tw136 : m_metw 136 := ⟨m_in 762 (by decide +kernel) (by decide +kernel), m_in 57 (by decide +kernel) (by decide +kernel), (fun h => absurd h (by decide)), (fun _ => m_in 760 (by decide +kernel) (by decide +kernel)), (fun _ => m_in 761 (by decide +kernel) (by decide +kernel)), (fun h => absurd h (by decide)), ⟨rfl, (by decide +kernel), (by decide +kernel), (by decide +kernel)⟩, (by decide +kernel)⟩
theorem m_tw137 : m_metw 137 := ⟨m_in 785 (by decide +kernel) (by decide +kernel), m_in 57 (by decide +kernel) (by decide +kernel), (fun h => absurd h (by decide)), (fun _ => m_in 784 (by decide +kernel) (by decide +kernel)), (fun _ => m_in 47 (by decide +kernel) (by decide +kernel)), (fun h => absurd h (by decide)), ⟨rfl, (by decide +kernel), (by decide +kernel), (by decide +kernel)⟩, (by decide +kernel)⟩
theorem m_tw138 : m_metw 138 := ⟨m_in 781 (by decide +kernel) (by decide +kernel), m_in 57 (by decide +kernel) (by decide +kernel), (fun h => absurd h (by decide)), (fun _ => m_in 779 (by decide +kernel) (by decide +kernel)), (fun _ => m_in 780 (by decide +kernel) (by decide +kernel)), (fun h => absurd h (by decide)), ⟨rfl, (by decide +kernel), (by decide +kernel), (by decide +kernel)⟩, (by decide +kernel)⟩
theorem m_tw139 : m_metw 139 := ⟨m_in 789 (by decide +kernel) (by decide +kernel), m_in 57 (by decide +kernel) (by decide +kernel), (fun h => absurd h (by decide)), (fun _ => m_in 787 (by decide +kernel) (by decide +kernel)), (fun _ => m_in 788 (by decide +kernel) (by decide +kernel)), (fun h => absurd h (by decide)), ⟨rfl, (by decide +kernel), (by decide +kernel), (by decide +kernel)⟩, (by decide +kernel)⟩
theorem m_tw140 : m_metw 140 := ⟨m_in 793 (by decide +kernel) (by decide +kernel), m_in 57 (by decide +kernel) (by decide +kernel), (fun h => absurd h (by decide)), (fun _ => m_in 791 (by decide +kernel) (by decide +kernel)), (fun _ => m_in 792 (by decide +kernel) (by decide +kernel)), (fun h => absurd h (by decide)), ⟨rfl, (by decide +kernel), (by decide +kernel), (by decide +kernel)⟩, (by decide +kernel)⟩
theorem m_tw141 : m_metw 141 := ⟨m_in 798 (by decide +kernel) (by decide +kernel), m_in 57 (by decide +kernel) (by decide +kernel), (fun h => absurd h (by decide)), (fun _ => m_in 796 (by decide +kernel) (by decide +kernel)), (fun _ => m_in 797 (by decide +kernel) (by decide +kernel)), (fun h => absurd h (by decide)), ⟨rfl, (by decide +kernel), (by decide +kernel), (by decide +kernel)⟩, (by decide +kernel)⟩
theorem m_tw142 : m_metw 142 := ⟨m_in 810 (by decide +kernel) (by decide +kernel), m_in 57 (by decide +kernel) (by decide +kernel), (fun h => absurd h (by decide)), (fun _ => m_in 809 (by decide +kernel) (by decide +kernel)), (fun _ => m_in 49 (by decide +kernel) (by decide +kernel)), (fun h => absurd h (by decide)), ⟨rfl, (by decide +kernel), (by decide +kernel), (by decide +kernel)⟩, (by decide +kernel)⟩
theorem m_tw143 : m_metw 143 := ⟨m_in 806 (by decide +kernel) (by decide +kernel), m_in 57 (by decide +kernel) (by decide +kernel), (fun h => absurd h (by decide)), (fun _ => m_in 805 (by decide +kernel) (by decide +kernel)), (fun _ => m_in 48 (by decide +kernel) (by decide +kernel)), (fun h => absurd h (by decide)), ⟨rfl, (by decide +kernel), (by decide +kernel), (by decide +kernel)⟩, (by decide +kernel)⟩
theorem m_tw144 : m_metw 144 := ⟨m_in 802 (by decide +kernel) (by decide +kernel), m_in 57 (by decide +kernel) (by decide +kernel), (fun h => absurd h (by decide)), (fun _ => m_in 800 (by decide +kernel) (by decide +kernel)), (fun _ => m_in 801 (by decide +kernel) (by decide +kernel)), (fun h => absurd h (by decide)), ⟨rfl, (by decide +kernel), (by decide +kernel), (by decide +kernel)⟩, (by decide +kernel)⟩
theorem m_tw145 : m_metw 145 := ⟨m_in 814 (by decide +kernel) (by decide +kernel), m_in 57 (by decide +kernel) (by decide +kernel), (fun h => absurd h (by decide)), (fun _ => m_in 812 (by decide +kernel) (by decide +kernel)), (fun _ => m_in 813 (by decide +kernel) (by decide +kernel)), (fun h => absurd h (by decide)), ⟨rfl, (by decide +kernel), (by decide +kernel), (by decide +kernel)⟩, (by decide +kernel)⟩
theorem m_tw146 : m_metw 146 := ⟨m_in 773 (by decide +kernel) (by decide +kernel), m_in 61 (by decide +kernel) (by decide +kernel), (fun _ => m_in 772 (by decide +kernel) (by decide +kernel)), (fun h => absurd rfl h), (fun h => absurd h (by decide)), (fun h => absurd h (by decide)), ⟨rfl, (by decide +kernel), (by decide +kernel), (by decide +kernel)⟩, (by decide +kernel)⟩
theorem m_tw147 : m_metw 147 := ⟨m_in 770 (by decide +kernel) (by decide +kernel), m_in 61 (by decide +kernel) (by decide +kernel), (fun _ => m_in 769 (by decide +kernel) (by decide +kernel)), (fun h => absurd rfl h), (fun h => absurd h (by decide)), (fun h => absurd h (by decide)), ⟨rfl, (by decide +kernel), (by decide +kernel), (by decide +kernel)⟩, (by decide +kernel)⟩
theorem m_tw148 : m_metw 148 := ⟨m_in 284 (by decide +kernel) (by decide +kernel), m_in 60 (by decide +kernel) (by decide +kernel), (fun _ => m_in 283 (by decide +kernel) (by decide +kernel)), (fun h => absurd rfl h), (fun h => absurd h (by decide)), (fun h => absurd h (by decide)), ⟨rfl, (by decide +kernel), (by decide +kernel), (by decide +kernel)⟩, (by decide +kernel)⟩
theorem m_met_w : ∀ mi, 0 < mi → mi < 149 → m_metw mi := by
  intro mi h0 h1
  match mi, h0, h1 with
  | 1, _, _ => exact m_tw1
  | 2, _, _ => exact m_tw2
  | 3, _, _ => exact m_tw3
  | 4, _, _ => exact m_tw4
  | 5, _, _ => exact m_tw5
  | 6, _, _ => exact m_tw6
  | 7, _, _ => exact m_tw7
  | 8, _, _ => exact m_tw8
  | 9, _, _ => exact m_tw9
  | 10, _, _ => exact m_tw10
  | 11, _, _ => exact m_tw11
  | 12, _, _ => exact m_tw12
  | 13, _, _ => exact m_tw13
  | 14, _, _ => exact m_tw14
  | 15, _, _ => exact m_tw15
  | 16, _, _ => exact m_tw16
  | 17, _, _ => exact m_tw17
  | 18, _, _ => exact m_tw18
  | 19, _, _ => exact m_tw19
  | 20, _, _ => exact m_tw20
  | 21, _, _ => exact m_tw21
  | 22, _, _ => exact m_tw22
  | 23, _, _ => exact m_tw23
  | 24, _, _ => exact m_tw24
  | 25, _, _ => exact m_tw25
  | 26, _, _ => exact m_tw26
  | 27, _, _ => exact m_tw27
  | 28, _, _ => exact m_tw28
  | 29, _, _ => exact m_tw29
  | 30, _, _ => exact m_tw30
  | 31, _, _ => exact m_tw31
  | 32, _, _ => exact m_tw32
  | 33, _, _ => exact m_tw33
  | 34, _, _ => exact m_tw34
  | 35, _, _ => exact m_tw35
  | 36, _, _ => exact m_tw36
  | 37, _, _ => exact m_tw37
  | 38, _, _ => exact m_tw38
  | 39, _, _ => exact m_tw39
  | 40, _, _ => exact m_tw40
  | 41, _, _ => exact m_tw41
  | 42, _, _ => exact m_tw42
  | 43, _, _ => exact m_tw43
  | 44, _, _ => exact m_tw44
  | 45, _, _ => exact m_tw45
  | 46, _, _ => exact m_tw46
  | 47, _, _ => exact m_tw47
  | 48, _, _ => exact m_tw48
  | 49, _, _ => exact m_tw49
  | 50, _, _ => exact m_tw50
  | 51, _, _ => exact m_tw51
  | 52, _, _ => exact m_tw52
  | 53, _, _ => exact m_tw53
  | 54, _, _ => exact m_tw54
  | 55, _, _ => exact m_tw55
  | 56, _, _ => exact m_tw56
  | 57, _, _ => exact m_tw57
  | 58, _, _ => exact m_tw58
  | 59, _, _ => exact m_tw59
  | 60, _, _ => exact m_tw60
  | 61, _, _ => exact m_tw61
  | 62, _, _ => exact m_tw62
  | 63, _, _ => exact m_tw63
  | 64, _, _ => exact m_tw64
  | 65, _, _ => exact m_tw65
  | 66, _, _ => exact m_tw66
  | 67, _, _ => exact m_tw67
  | 68, _, _ => exact m_tw68
  | 69, _, _ => exact m_tw69
  | 70, _, _ => exact m_tw70
  | 71, _, _ => exact m_tw71
  | 72, _, _ => exact m_tw72
  | 73, _, _ => exact m_tw73
  | 74, _, _ => exact m_tw74
  | 75, _, _ => exact m_tw75
  | 76, _, _ => exact m_tw76
  | 77, _, _ => exact m_tw77
  | 78, _, _ => exact m_tw78
  | 79, _, _ => exact m_tw79
  | 80, _, _ => exact m_tw80
  | 81, _, _ => exact m_tw81
  | 82, _, _ => exact m_tw82
  | 83, _, _ => exact m_tw83
  | 84, _, _ => exact m_tw84
  | 85, _, _ => exact m_tw85
  | 86, _, _ => exact m_tw86
  | 87, _, _ => exact m_tw87
  | 88, _, _ => exact m_tw88
  | 89, _, _ => exact m_tw89
  | 90, _, _ => exact m_tw90
  | 91, _, _ => exact m_tw91
  | 92, _, _ => exact m_tw92
  | 93, _, _ => exact m_tw93
  | 94, _, _ => exact m_tw94
  | 95, _, _ => exact m_tw95
  | 96, _, _ => exact m_tw96
  | 97, _, _ => exact m_tw97
  | 98, _, _ => exact m_tw98
  | 99, _, _ => exact m_tw99
  | 100, _, _ => exact m_tw100
  | 101, _, _ => exact m_tw101
  | 102, _, _ => exact m_tw102
  | 103, _, _ => exact m_tw103
  | 104, _, _ => exact m_tw104
  | 105, _, _ => exact m_tw105
  | 106, _, _ => exact m_tw106
  | 107, _, _ => exact m_tw107
  | 108, _, _ => exact m_tw108
  | 109, _, _ => exact m_tw109
  | 110, _, _ => exact m_tw110
  | 111, _, _ => exact m_tw111
  | 112, _, _ => exact m_tw112
  | 113, _, _ => exact m_tw113
  | 114, _, _ => exact m_tw114
  | 115, _, _ => exact m_tw115
  | 116, _, _ => exact m_tw116
  | 117, _, _ => exact m_tw117
  | 118, _, _ => exact m_tw118
  | 119, _, _ => exact m_tw119
  | 120, _, _ => exact m_tw120
  | 121, _, _ => exact m_tw121
  | 122, _, _ => exact m_tw122
  | 123, _, _ => exact m_tw123
  | 124, _, _ => exact m_tw124
  | 125, _, _ => exact m_tw125
  | 126, _, _ => exact m_tw126
  | 127, _, _ => exact m_tw127
  | 128, _, _ => exact m_tw128
  | 129, _, _ => exact m_tw129
  | 130, _, _ => exact m_tw130
  | 131, _, _ => exact m_tw131
  | 132, _, _ => exact m_tw132
  | 133, _, _ => exact m_tw133
  | 134, _, _ => exact m_tw134
  | 135, _, _ => exact m_tw135
  | 136, _, _ => exact m_tw136
  | 137, _, _ => exact m_tw137
  | 138, _, _ => exact m_tw138
  | 139, _, _ => exact m_tw139
  | 140, _, _ => exact m_tw140
  | 141, _, _ => exact m_tw141
  | 142, _, _ => exact m_tw142
  | 143, _, _ => exact m_tw143
  | 144, _, _ => exact m_tw144
  | 145, _, _ => exact m_tw145
  | 146, _, _ => exact m_tw146
  | 147, _, _ => exact m_tw147
  | 148, _, _ => exact m_tw148
  | n + 149, _, h => exact absurd h (by omega)
theorem m_arr_w : Cond.arrayClass .int ∈ lw_g ∧ Cond.arrayClass .char ∈ lw_g ∧ Cond.arrayClass .long ∈ lw_g := ⟨m_in 106 (by decide +kernel) (by decide +kernel), m_in 144 (by decide +kernel) (by decide +kernel), m_in 574 (by decide +kernel) (by decide +kernel)⟩
theorem m_acp_w : Cond.native arraycopyName ∈ lw_g ∧ Cond.static arraycopyName ∈ lw_g ∧ Cond.initialized "java/lang/System" ∈ lw_g := ⟨m_in 204 (by decide +kernel) (by decide +kernel), m_in 203 (by decide +kernel) (by decide +kernel), m_in 58 (by decide +kernel) (by decide +kernel)⟩
theorem m_frb_w : Cond.native ⟨"java/lang/Float", "floatToRawIntBits", "(F)I"⟩ ∈ lw_g ∧ Cond.static ⟨"java/lang/Float", "floatToRawIntBits", "(F)I"⟩ ∈ lw_g ∧ Cond.initialized "java/lang/Float" ∈ lw_g := ⟨m_in 776 (by decide +kernel) (by decide +kernel), m_in 775 (by decide +kernel) (by decide +kernel), m_in 61 (by decide +kernel) (by decide +kernel)⟩
theorem m_obj_w : Cond.instanceMethod objectInit ∈ lw_g ∧ Cond.code objectInit ⟨#[0xb1]⟩ 1 none ∈ lw_g := ⟨m_in 68 (by decide +kernel) (by decide +kernel), m_in 69 (by decide +kernel) (by decide +kernel)⟩
theorem m_uw0 : ∀ w ∈ u_ws RX0 TX0 3, w ∈ lw_g := by
  have h : (u_ws RX0 TX0 3).all (fun w => decide (w ∈ lw_tbl) && goodWord w) = true := by decide +kernel
  intro w hw
  have h1 := List.all_eq_true.mp h w hw
  simp only [Bool.and_eq_true, decide_eq_true_eq] at h1
  exact List.mem_filter.mpr h1
theorem m_uw1 : ∀ w ∈ u_ws RX2 TX2 6, w ∈ lw_g := by
  have h : (u_ws RX2 TX2 6).all (fun w => decide (w ∈ lw_tbl) && goodWord w) = true := by decide +kernel
  intro w hw
  have h1 := List.all_eq_true.mp h w hw
  simp only [Bool.and_eq_true, decide_eq_true_eq] at h1
  exact List.mem_filter.mpr h1
theorem m_uw2 : ∀ w ∈ u_ws RX3 TX3 1, w ∈ lw_g := by
  have h : (u_ws RX3 TX3 1).all (fun w => decide (w ∈ lw_tbl) && goodWord w) = true := by decide +kernel
  intro w hw
  have h1 := List.all_eq_true.mp h w hw
  simp only [Bool.and_eq_true, decide_eq_true_eq] at h1
  exact List.mem_filter.mpr h1
theorem m_uw3 : ∀ w ∈ u_ws RX4 TX4 2, w ∈ lw_g := by
  have h : (u_ws RX4 TX4 2).all (fun w => decide (w ∈ lw_tbl) && goodWord w) = true := by decide +kernel
  intro w hw
  have h1 := List.all_eq_true.mp h w hw
  simp only [Bool.and_eq_true, decide_eq_true_eq] at h1
  exact List.mem_filter.mpr h1
theorem m_uw4 : ∀ w ∈ u_ws RX5 TX5 2, w ∈ lw_g := by
  have h : (u_ws RX5 TX5 2).all (fun w => decide (w ∈ lw_tbl) && goodWord w) = true := by decide +kernel
  intro w hw
  have h1 := List.all_eq_true.mp h w hw
  simp only [Bool.and_eq_true, decide_eq_true_eq] at h1
  exact List.mem_filter.mpr h1
theorem m_uw5 : ∀ w ∈ u_ws RX6 TX6 5, w ∈ lw_g := by
  have h : (u_ws RX6 TX6 5).all (fun w => decide (w ∈ lw_tbl) && goodWord w) = true := by decide +kernel
  intro w hw
  have h1 := List.all_eq_true.mp h w hw
  simp only [Bool.and_eq_true, decide_eq_true_eq] at h1
  exact List.mem_filter.mpr h1
theorem m_uw6 : ∀ w ∈ u_ws RX7 TX7 13, w ∈ lw_g := by
  have h : (u_ws RX7 TX7 13).all (fun w => decide (w ∈ lw_tbl) && goodWord w) = true := by decide +kernel
  intro w hw
  have h1 := List.all_eq_true.mp h w hw
  simp only [Bool.and_eq_true, decide_eq_true_eq] at h1
  exact List.mem_filter.mpr h1
end
section
/-! A pure picture of the machine: ints are whole numbers that stand for their class modulo 2^32, cells are numbered in the order in which they are made; a method's run is said by m_Sem: from this picture the method comes to its end with an answer and a world of which Q holds. -/
abbrev mPV : Type := Int ⊕ (Nat ⊕ Value)
abbrev mPC : Type := (Nat × Nat × ((Int → Int) ⊕ (Nat → Int64))) ⊕ (Nat × List mPV)
abbrev mPW : Type := List mPC
abbrev mPS : Type := Nat × List (Option mPV) × List mPV × mPW × Nat × Nat
def m_cv (N0 : Nat) : mPV → Value
  | .inl x => .int (Int32.ofInt x)
  | .inr (.inl k) => .ref (N0 + k)
  | .inr (.inr v) => v
def m_cc (N0 : Nat) (aI : Nat → ClassId) : mPC → va_E
  | .inl (t, n, .inl f) => .inl (aI t, n, .inl (fun j => Int32.ofInt (f (j : Int))))
  | .inl (t, n, .inr f) => .inl (aI t, n, .inr (.inl f))
  | .inr (ci, fs) => .inr (ci, fs.map (m_cv N0))
def m_cw (N0 : Nat) (aI : Nat → ClassId) : Nat → mPW → va_W
  | _, [] => []
  | k, c :: w => (N0 + k, m_cc N0 aI c) :: m_cw N0 aI (k + 1) w
def m_as (N0 : Nat) : Nat → List (Option mPV) → List (Nat × Value)
  | _, [] => []
  | k, none :: L => m_as N0 (k + 1) L
  | k, some v :: L => (k, m_cv N0 v) :: m_as N0 (k + 1) L
def m_cat : mPV → Nat
  | .inr (.inr v) => v.category
  | _ => 1
theorem m_cat_cv (N0 : Nat) (v : mPV) : (m_cv N0 v).category = m_cat v := by
  rcases v with x | k | v <;> rfl
def m_c2 : Option mPV → Bool
  | some v => m_cat v == 2
  | none => false
/-- a variable of one word is stored -/
def m_st : List (Option mPV) → Nat → mPV → List (Option mPV)
  | [], _, _ => []
  | _ :: L, 0, v => some v :: L
  | o :: L, i + 1, v => (bif (i == 0 && m_c2 o) then none else o) :: m_st L i v
/-- a variable of two words is stored -/
def m_st2 : List (Option mPV) → Nat → mPV → List (Option mPV)
  | [], _, _ => []
  | [o], _, _ => [o]
  | _ :: _ :: L, 0, v => some v :: none :: L
  | o :: o2 :: L, i + 1, v => (bif (i == 0 && m_c2 o) then none else o) :: m_st2 (o2 :: L) i v
def m_ent : List mPV → Nat → List (Option mPV)
  | [], n => List.replicate n none
  | v :: vs, n => bif m_cat v == 2 then some v :: none :: m_ent vs (n - 2) else some v :: m_ent vs (n - 1)
theorem m_as_le {N0 : Nat} : ∀ (L : List (Option mPV)) (k : Nat) (q : Nat × Value), q ∈ m_as N0 k L → k ≤ q.1
  | [], _, _, h => by cases h
  | none :: L, k, q, h => Nat.le_of_succ_le (m_as_le L (k + 1) q h)
  | some v :: L, k, q, h => by
    rcases List.mem_cons.mp h with rfl | h
    · exact Nat.le_refl _
    · exact Nat.le_of_succ_le (m_as_le L (k + 1) q h)
theorem m_st_len : ∀ (L : List (Option mPV)) (i : Nat) (v : mPV), (m_st L i v).length = L.length
  | [], _, _ => rfl
  | _ :: _, 0, _ => rfl
  | _ :: L, i + 1, v => by simp only [m_st, List.length_cons, m_st_len L i v]
theorem m_st2_len : ∀ (L : List (Option mPV)) (i : Nat) (v : mPV), (m_st2 L i v).length = L.length
  | [], _, _ => rfl
  | [_], 0, _ => rfl
  | [_], _ + 1, _ => rfl
  | _ :: _ :: _, 0, _ => rfl
  | _ :: o2 :: L, i + 1, v => by simp only [m_st2, List.length_cons, m_st2_len (o2 :: L) i v]
theorem m_as_cons {N0 : Nat} {k : Nat} {o : Option mPV} {L : List (Option mPV)} {q : Nat × Value} : q ∈ m_as N0 k (o :: L) ↔ (∃ v, o = some v ∧ q = (k, m_cv N0 v)) ∨ q ∈ m_as N0 (k + 1) L := by
  cases o with
  | none => simp [m_as]
  | some v => simp [m_as]
theorem m_kill {N0 k i : Nat} {o : Option mPV} {v : mPV} (h : (bif (i == 0 && m_c2 o) then none else o) = some v) : o = some v ∧ ¬ (k + 1 = k + (i + 1) ∧ (m_cv N0 v).category = 2) := by
  cases hb : (i == 0 && m_c2 o) with
  | true => rw [hb] at h; cases h
  | false =>
    rw [hb] at h
    have h : o = some v := h
    refine ⟨h, fun hc => ?_⟩
    subst h
    have h0 : i = 0 := by omega
    subst h0
    rw [m_cat_cv] at hc
    simp [m_c2, hc.2] at hb
theorem m_st_mem {N0 : Nat} : ∀ (L : List (Option mPV)) (k i : Nat) (v : mPV) (q : Nat × Value), q ∈ m_as N0 k (m_st L i v) → q = (k + i, m_cv N0 v) ∨ (q ∈ m_as N0 k L ∧ ¬ q.1 = k + i ∧ ¬ (q.1 + 1 = k + i ∧ q.2.category = 2))
  | [], _, _, _, _, h => by cases h
  | o :: L, k, 0, v, q, h => by
    rcases m_as_cons.mp h with ⟨v', h1, h2⟩ | h
    · cases h1
      exact Or.inl h2
    · have := m_as_le L (k + 1) q h
      exact Or.inr ⟨m_as_cons.mpr (Or.inr h), by omega, by omega⟩
  | o :: L, k, i + 1, v, q, h => by
    rcases m_as_cons.mp h with ⟨v', h1, rfl⟩ | h
    · obtain ⟨h2, h3⟩ := m_kill (N0 := N0) (k := k) h1
      exact Or.inr ⟨m_as_cons.mpr (Or.inl ⟨v', h2, rfl⟩), by show ¬ k = _; omega, h3⟩
    · rcases m_st_mem L (k + 1) i v q h with h | ⟨h1, h2, h3⟩
      · exact Or.inl (by rw [h]; congr 1; omega)
      · exact Or.inr ⟨m_as_cons.mpr (Or.inr h1), by omega, by rw [show k + (i + 1) = k + 1 + i by omega]; exact h3⟩
theorem m_st2_mem {N0 : Nat} : ∀ (L : List (Option mPV)) (k i : Nat) (v : mPV) (q : Nat × Value), i + 1 < L.length → q ∈ m_as N0 k (m_st2 L i v) → q = (k + i, m_cv N0 v) ∨ (q ∈ m_as N0 k L ∧ ¬ q.1 = k + i ∧ ¬ q.1 = k + i + 1 ∧ ¬ (q.1 + 1 = k + i ∧ q.2.category = 2))
  | [], _, _, _, _, hl, h => by cases h
  | [_], _, _, _, _, hl, h => absurd hl (by simp)
  | o :: o2 :: L, k, 0, v, q, hl, h => by
    rcases m_as_cons.mp h with ⟨v', h1, h2⟩ | h
    · cases h1
      exact Or.inl h2
    · rcases m_as_cons.mp h with ⟨v', h1, h2⟩ | h
      · cases h1
      · have := m_as_le L (k + 1 + 1) q h
        exact Or.inr ⟨m_as_cons.mpr (Or.inr (m_as_cons.mpr (Or.inr h))), by omega, by omega, by omega⟩
  | o :: o2 :: L, k, i + 1, v, q, hl, h => by
    rcases m_as_cons.mp h with ⟨v', h1, rfl⟩ | h
    · obtain ⟨h2, h3⟩ := m_kill (N0 := N0) (k := k) h1
      exact Or.inr ⟨m_as_cons.mpr (Or.inl ⟨v', h2, rfl⟩), by show ¬ k = _; omega, by show ¬ k = _; omega, h3⟩
    · rcases m_st2_mem (o2 :: L) (k + 1) i v q (by simp only [List.length_cons] at hl ⊢; omega) h with h | ⟨h1, h2, h3, h4⟩
      · exact Or.inl (by rw [h]; congr 1; omega)
      · exact Or.inr ⟨m_as_cons.mpr (Or.inr h1), by omega, by omega, by rw [show k + (i + 1) = k + 1 + i by omega]; exact h4⟩
theorem m_has_mono {ls : Array Slot} {n : Nat} {l l' : List (Nat × Value)} (h : lv_has ls n l) (hs : ∀ q ∈ l', q ∈ l) : lv_has ls n l' := ⟨h.1, h.2.1, fun q hq => h.2.2 q (hs q hq)⟩
theorem m_has_st {ls : Array Slot} {n N0 i : Nat} {L : List (Option mPV)} {v : mPV} {x : Value} (hx : m_cv N0 v = x) (h : lv_has ls n ((i, x) :: (m_as N0 0 L).filter (fun q => !(q.1 == i) && !(q.1 + 1 == i && q.2.category == 2)))) : lv_has ls n (m_as N0 0 (m_st L i v)) := by
  subst hx
  refine m_has_mono h (fun q hq => ?_)
  rcases m_st_mem L 0 i v q hq with h | ⟨h1, h2, h3⟩
  · rw [h, Nat.zero_add]; exact List.mem_cons_self
  · refine List.mem_cons_of_mem _ (List.mem_filter.mpr ⟨h1, ?_⟩)
    rw [Nat.zero_add] at h2 h3
    simp only [Bool.and_eq_true, Bool.not_eq_true', beq_eq_false_iff_ne, ne_eq, Bool.and_eq_false_iff]
    refine ⟨h2, ?_⟩
    by_cases hc : q.1 + 1 = i
    · exact Or.inr (fun hz => h3 ⟨hc, hz⟩)
    · exact Or.inl hc
theorem m_has_st2 {ls : Array Slot} {n N0 i : Nat} {L : List (Option mPV)} {v : mPV} {x : Value} (hx : m_cv N0 v = x) (hi : i + 1 < L.length) (h : lv_has ls n ((i, x) :: (m_as N0 0 L).filter (fun q => !(q.1 == i) && (!(q.1 == i + 1) && !(q.1 + 1 == i && q.2.category == 2))))) : lv_has ls n (m_as N0 0 (m_st2 L i v)) := by
  subst hx
  refine m_has_mono h (fun q hq => ?_)
  rcases m_st2_mem L 0 i v q hi hq with h | ⟨h1, h2, h3, h4⟩
  · rw [h, Nat.zero_add]; exact List.mem_cons_self
  · refine List.mem_cons_of_mem _ (List.mem_filter.mpr ⟨h1, ?_⟩)
    rw [Nat.zero_add] at h2 h3 h4
    simp only [Bool.and_eq_true, Bool.not_eq_true', beq_eq_false_iff_ne, ne_eq, Bool.and_eq_false_iff]
    refine ⟨h2, h3, ?_⟩
    by_cases hc : q.1 + 1 = i
    · exact Or.inr (fun hz => h4 ⟨hc, hz⟩)
    · exact Or.inl hc
theorem m_as_get {N0 : Nat} : ∀ (L : List (Option mPV)) (k i : Nat) (v : mPV), L[i]? = some (some v) → (k + i, m_cv N0 v) ∈ m_as N0 k L
  | [], _, _, _, h => by simp at h
  | o :: L, k, 0, v, h => by
    simp at h
    subst h
    exact List.mem_cons_self
  | o :: L, k, i + 1, v, h => by
    have := m_as_get (N0 := N0) L (k + 1) i v (by simpa using h)
    rw [show k + (i + 1) = k + 1 + i by omega]
    exact m_as_cons.mpr (Or.inr this)
theorem m_has_get {ls : Array Slot} {n N0 i : Nat} {L : List (Option mPV)} {v : mPV} (h : lv_has ls n (m_as N0 0 L)) (hv : L[i]? = some (some v)) : ls[i]? = some (.val (m_cv N0 v)) := by
  have := h.2.2 _ (m_as_get L 0 i v hv)
  rw [Nat.zero_add] at this
  exact this
theorem m_as_rep {N0 : Nat} : ∀ (n k : Nat), m_as N0 k (List.replicate n none) = []
  | 0, _ => rfl
  | n + 1, k => by rw [List.replicate_succ]; exact m_as_rep n (k + 1)
theorem m_ent_mem {N0 : Nat} : ∀ (vs : List mPV) (n k : Nat) (q : Nat × Value), q ∈ m_as N0 k (m_ent vs n) → q ∈ lv_args k (vs.map (m_cv N0))
  | [], n, k, q, h => by
    rw [m_ent, m_as_rep] at h
    cases h
  | v :: vs, n, k, q, h => by
    unfold m_ent at h
    show q ∈ lv_args k (m_cv N0 v :: vs.map (m_cv N0))
    unfold lv_args
    rw [m_cat_cv]
    cases hc : (m_cat v == 2) with
    | true =>
      rw [hc] at h
      rw [if_pos (by simpa using hc)]
      rcases m_as_cons.mp h with ⟨v', h1, rfl⟩ | h
      · cases h1
        exact List.mem_cons_self
      · rcases m_as_cons.mp h with ⟨v', h1, rfl⟩ | h
        · cases h1
        · exact List.mem_cons_of_mem _ (m_ent_mem vs (n - 2) (k + 2) q h)
    | false =>
      rw [hc] at h
      rw [if_neg (by simpa using hc)]
      rcases m_as_cons.mp h with ⟨v', h1, rfl⟩ | h
      · cases h1
        exact List.mem_cons_self
      · exact List.mem_cons_of_mem _ (m_ent_mem vs (n - 1) (k + 1) q h)
def m_words : List mPV → Nat
  | [] => 0
  | v :: vs => (bif m_cat v == 2 then 2 else 1) + m_words vs
theorem m_ent_len : ∀ (vs : List mPV) (n : Nat), m_words vs ≤ n → (m_ent vs n).length = n
  | [], n, _ => by rw [m_ent, List.length_replicate]
  | v :: vs, n, h => by
    unfold m_words at h
    unfold m_ent
    cases hc : (m_cat v == 2) with
    | true =>
      rw [hc] at h
      have h : 2 + m_words vs ≤ n := h
      show (m_ent vs (n - 2)).length + 1 + 1 = n
      rw [m_ent_len vs (n - 2) (by omega)]; omega
    | false =>
      rw [hc] at h
      have h : 1 + m_words vs ≤ n := h
      show (m_ent vs (n - 1)).length + 1 = n
      rw [m_ent_len vs (n - 1) (by omega)]; omega
theorem m_words_sl (N0 : Nat) : ∀ vs : List mPV, (lg_sl (vs.map (m_cv N0))).length = m_words vs
  | [] => rfl
  | v :: vs => by
    have ih := m_words_sl N0 vs
    unfold m_words
    rw [← ih]
    show ((m_cv N0 v :: vs.map (m_cv N0)).flatMap _).length = _
    rw [List.flatMap_cons, List.length_append]
    congr 1
    rw [m_cat_cv]
    cases hc : (m_cat v == 2) with
    | true => rw [if_pos (by simpa using hc)]; rfl
    | false => rw [if_neg (by simpa using hc)]; rfl
theorem m_entry {N0 n : Nat} (vs : List mPV) (h : m_words vs ≤ n) : ∃ ls : Array Slot, (∀ m : MethodId, entryFrame m (vs.map (m_cv N0)).toArray n = F0 m 0 ls []) ∧ lv_has ls n (m_as N0 0 (m_ent vs n)) := by
  refine ⟨_, fun m => lg_entry_eq m _ n, ?_⟩
  have h1 := lv_entry (vs.map (m_cv N0)) (n := n) (by rw [m_words_sl]; exact h)
  exact m_has_mono h1 (fun q hq => m_ent_mem vs n 0 q hq)
/-! the world -/
theorem m_cw_get {N0 : Nat} {aI : Nat → ClassId} : ∀ (w : mPW) (k i : Nat), (m_cw N0 aI k w)[i]? = (w[i]?).map (fun c => (N0 + (k + i), m_cc N0 aI c))
  | [], _, _ => by simp [m_cw]
  | c :: w, k, 0 => by simp [m_cw]
  | c :: w, k, i + 1 => by
    have := m_cw_get (N0 := N0) (aI := aI) w (k + 1) i
    simp only [m_cw, List.getElem?_cons_succ, this]
    rw [show k + 1 + i = k + (i + 1) by omega]
theorem m_cw_at {N0 : Nat} {aI : Nat → ClassId} {w : mPW} {i : Nat} {c : mPC} (h : w[i]? = some c) : (m_cw N0 aI 0 w)[i]? = some (N0 + i, m_cc N0 aI c) := by
  rw [m_cw_get, h, Nat.zero_add]; rfl
theorem m_cw_set {N0 : Nat} {aI : Nat → ClassId} : ∀ (w : mPW) (k i : Nat) (c : mPC), m_cw N0 aI k (w.set i c) = (m_cw N0 aI k w).set i (N0 + (k + i), m_cc N0 aI c)
  | [], _, _, _ => rfl
  | _ :: w, k, 0, c => rfl
  | _ :: w, k, i + 1, c => by
    simp only [List.set_cons_succ, m_cw, m_cw_set w (k + 1) i c]
    rw [show k + 1 + i = k + (i + 1) by omega]
theorem m_cw_app {N0 : Nat} {aI : Nat → ClassId} : ∀ (w : mPW) (k : Nat) (c : mPC), m_cw N0 aI k (w ++ [c]) = m_cw N0 aI k w ++ [(N0 + (k + w.length), m_cc N0 aI c)]
  | [], _, _ => rfl
  | _ :: w, k, c => by
    simp only [List.cons_append, m_cw, m_cw_app w (k + 1) c, List.length_cons]
    rw [show k + 1 + w.length = k + (w.length + 1) by omega]
theorem m_cw_D {N0 : Nat} {aI : Nat → ClassId} {w : mPW} : va_D (fun q => N0 ≤ q) (m_cw N0 aI 0 w) := by
  refine ⟨fun i j p q hi hj hpq => ?_, fun k q hk => ?_⟩
  · rw [m_cw_get] at hi hj
    obtain ⟨c, -, rfl⟩ := Option.map_eq_some_iff.mp hi
    obtain ⟨c', -, rfl⟩ := Option.map_eq_some_iff.mp hj
    have : N0 + (0 + i) = N0 + (0 + j) := hpq
    omega
  · rw [m_cw_get] at hk
    obtain ⟨c, -, rfl⟩ := Option.map_eq_some_iff.mp hk
    exact Nat.le_add_right _ _
end
section

theorem m_of_add (x y : Int) : Int32.ofInt (x + y) = Int32.ofInt x + Int32.ofInt y := Int32.toBitVec.inj (by simp [BitVec.ofInt_add])
theorem m_of_sub (x y : Int) : Int32.ofInt (x - y) = Int32.ofInt x - Int32.ofInt y := by
  have h := m_of_add (x - y) y
  rw [show x - y + y = x by omega] at h
  rw [h, Int32.add_sub_cancel]
theorem m_of_mul (x y : Int) : Int32.ofInt (x * y) = Int32.ofInt x * Int32.ofInt y := Int32.toBitVec.inj (by simp [BitVec.ofInt_mul])
/-- a whole number in the range of an int -/
def m_R (x : Int) : Prop := -2147483648 ≤ x ∧ x < 2147483648
theorem m_R_to {x : Int} (h : m_R x) : (Int32.ofInt x).toInt = x := Int32.toInt_ofInt_of_le (by have := h.1; omega) (by have := h.2; omega)
theorem m_R_32 (x : Int32) : m_R x.toInt := ⟨Int32.le_toInt x, Int32.toInt_lt x⟩
theorem m_R_nat {x : Int} (h : m_R x) : (Int32.ofInt x).toNatClampNeg = x.toNat := Int32.toNatClampNeg_ofInt_of_le (by have := h.1; omega) (by have := h.2; omega)
theorem m_R_eq {x y : Int} (hx : m_R x) (hy : m_R y) : Int32.ofInt x = Int32.ofInt y ↔ x = y := by rw [← Int32.toInt_inj, m_R_to hx, m_R_to hy]
theorem m_R_lt {x y : Int} (hx : m_R x) (hy : m_R y) : Int32.ofInt x < Int32.ofInt y ↔ x < y := by rw [Int32.lt_iff_toInt_lt, m_R_to hx, m_R_to hy]
theorem m_R_le {x y : Int} (hx : m_R x) (hy : m_R y) : Int32.ofInt x ≤ Int32.ofInt y ↔ x ≤ y := by rw [Int32.le_iff_toInt_le, m_R_to hx, m_R_to hy]
theorem m_R_0 : m_R 0 := ⟨by decide, by decide⟩
theorem m_R_div {x y : Int} (hx : 0 ≤ x) (hx' : x < 2147483648) (hy : 0 < y) (hy' : y < 2147483648) : Int32.ofInt (x / y) = Int32.ofInt x / Int32.ofInt y := by
  have h1 := m_R_to (x := x) ⟨by omega, hx'⟩
  have h2 := m_R_to (x := y) ⟨by omega, hy'⟩
  have h3 : Int32.ofInt x ≠ Int32.minValue := by
    intro h
    have h4 := congrArg Int32.toInt h
    rw [h1, Int32.toInt_minValue] at h4
    omega
  have h5 : 0 ≤ x / y := Int.ediv_nonneg hx (by omega)
  have h6 : x / y ≤ x := Int.ediv_le_self y hx
  rw [← Int32.toInt_inj, m_R_to ⟨by omega, by omega⟩, Int32.toInt_div_of_ne_left _ _ h3, h1, h2, Int.tdiv_eq_ediv_of_nonneg hx]
theorem m_R_rem {x y : Int} (hx : 0 ≤ x) (hx' : x < 2147483648) (hy : 0 < y) (hy' : y < 2147483648) : Int32.ofInt (x % y) = Int32.ofInt x - Int32.ofInt x / Int32.ofInt y * Int32.ofInt y := by
  rw [← m_R_div hx hx' hy hy', ← m_of_mul, ← m_of_sub]
  congr 1
  have := Int.mul_ediv_add_emod x y
  rw [Int.mul_comm (x / y) y]
  omega
/-- the length of an instruction that the tables hold -/
def m_len : Instr → Nat
  | .iload _ | .aload _ | .lload _ | .fload _ | .istore _ | .astore _ | .lstore _ | .fstore _ | .bipush _ | .ldc _ | .newarray _ => 2
  | .sipush _ | .ldc_w _ | .iinc _ _ | .getfield _ | .putfield _ | .goto _ | .if_icmp _ _ | .ifCond _ _ | .invokevirtual _ | .invokespecial _ | .invokestatic _ | .new _ => 3
  | _ => 1
def m_okb (mi : Nat) (e : BE) : Bool :=
  (match e.2.1 with | .tableswitch .. => (match decode (m_cd mi) e.1 with | .ok (i, _) => decide (i = e.2.1) | _ => false) | _ => decide (decode (m_cd mi) e.1 = .ok (e.2.1, m_len e.2.1))) &&
  match e.2.1 with
  | .bipush n => decide ((Int8.ofInt n).toInt32 = Int32.ofInt e.2.2.2.2)
  | .sipush n => decide ((Int16.ofInt n).toInt32 = Int32.ofInt e.2.2.2.2)
  | .getfield i => decide ((m_on mi, i, e.2.2.1, e.2.2.2.1) ∈ m_flds)
  | .putfield i => decide ((m_on mi, i, e.2.2.1, e.2.2.2.1) ∈ m_flds) && (match vwCl[e.2.2.1]? with | some r => (if e.2.2.2.2 = 0 then decide (r.2.1 e.2.2.2.1 = ((r.2.1 e.2.2.2.1).1, (r.2.1 e.2.2.2.1).2.1, "I", false)) else (r.2.1 e.2.2.2.1).2.2.2 && decide (m_kind mi = 2) && decide ((r.2.1 e.2.2.2.1).1 = m_own mi) && (match parseFieldDescriptor (r.2.1 e.2.2.2.1).2.2.1 with | some (.object _) => true | some (.array _) => true | _ => false)) | none => false)
  | .invokevirtual i => decide ((m_on mi, i, e.2.2.1) ∈ m_mths) && decide (e.2.2.1 < 1000 ∧ 0 < e.2.2.1 ∧ m_kind e.2.2.1 = 1)
  | .invokespecial i => decide ((m_on mi, i, e.2.2.1) ∈ m_mths) && decide (e.2.2.1 = 1000 ∨ (e.2.2.1 < 1000 ∧ 0 < e.2.2.1 ∧ m_kind e.2.2.1 = 2))
  | .invokestatic i => decide ((m_on mi, i, e.2.2.1) ∈ m_mths) && decide (e.2.2.1 = 1001 ∨ e.2.2.1 = 1002 ∨ (e.2.2.1 < 1000 ∧ 0 < e.2.2.1 ∧ m_kind e.2.2.1 = 0))
  | .ldc i => decide ((m_on mi, i, e.2.2.2.1, e.2.2.2.2) ∈ m_csts)
  | .ldc_w i => decide ((m_on mi, i, e.2.2.2.1, e.2.2.2.2) ∈ m_csts)
  | .new i => decide ((m_on mi, i, e.2.2.1) ∈ m_clss)
  | .goto off => decide ((e.1 : Int) + off = (e.2.2.1 : Int))
  | .if_icmp _ off => decide ((e.1 : Int) + off = (e.2.2.1 : Int))
  | .ifCond _ off => decide ((e.1 : Int) + off = (e.2.2.1 : Int))
  | .newarray t => decide (newarray.typeOf t = (if e.2.2.1 = 0 then .int else if e.2.2.1 = 1 then .char else .long)) && decide (e.2.2.1 < 3)
  | _ => true

theorem m_bk0 : bd_0.all (m_okb 0) = true := by decide +kernel
theorem m_bk1 : bd_1.all (m_okb 1) = true := by decide +kernel
theorem m_bk2 : bd_2.all (m_okb 2) = true := by decide +kernel
theorem m_bk3 : bd_3.all (m_okb 3) = true := by decide +kernel
theorem m_bk4 : bd_4.all (m_okb 4) = true := by decide +kernel
theorem m_bk5 : bd_5.all (m_okb 5) = true := by decide +kernel
theorem m_bk6 : bd_6.all (m_okb 6) = true := by decide +kernel
theorem m_bk7 : bd_7.all (m_okb 7) = true := by decide +kernel
theorem m_bk8 : bd_8.all (m_okb 8) = true := by decide +kernel
theorem m_bk9 : bd_9.all (m_okb 9) = true := by decide +kernel
theorem m_bk10 : bd_10.all (m_okb 10) = true := by decide +kernel
theorem m_bk11 : bd_11.all (m_okb 11) = true := by decide +kernel
theorem m_bk12 : bd_12.all (m_okb 12) = true := by decide +kernel
theorem m_bk13 : bd_13.all (m_okb 13) = true := by decide +kernel
theorem m_bk14 : bd_14.all (m_okb 14) = true := by decide +kernel
theorem m_bk15 : bd_15.all (m_okb 15) = true := by decide +kernel
theorem m_bk16 : bd_16.all (m_okb 16) = true := by decide +kernel
theorem m_bk17 : bd_17.all (m_okb 17) = true := by decide +kernel
theorem m_bk18 : bd_18.all (m_okb 18) = true := by decide +kernel
theorem m_bk19 : bd_19.all (m_okb 19) = true := by decide +kernel
theorem m_bk20 : bd_20.all (m_okb 20) = true := by decide +kernel
theorem m_bk21 : bd_21.all (m_okb 21) = true := by decide +kernel
theorem m_bk22 : bd_22.all (m_okb 22) = true := by decide +kernel
theorem m_bk23 : bd_23.all (m_okb 23) = true := by decide +kernel
theorem m_bk24 : bd_24.all (m_okb 24) = true := by decide +kernel
theorem m_bk25 : bd_25.all (m_okb 25) = true := by decide +kernel
theorem m_bk26 : bd_26.all (m_okb 26) = true := by decide +kernel
theorem m_bk27 : bd_27.all (m_okb 27) = true := by decide +kernel
theorem m_bk28 : bd_28.all (m_okb 28) = true := by decide +kernel
theorem m_bk29 : bd_29.all (m_okb 29) = true := by decide +kernel
theorem m_bk30 : bd_30.all (m_okb 30) = true := by decide +kernel
theorem m_bk31 : bd_31.all (m_okb 31) = true := by decide +kernel
theorem m_bk32 : bd_32.all (m_okb 32) = true := by decide +kernel
theorem m_bk33 : bd_33.all (m_okb 33) = true := by decide +kernel
theorem m_bk34 : bd_34.all (m_okb 34) = true := by decide +kernel
theorem m_bk35 : bd_35.all (m_okb 35) = true := by decide +kernel
theorem m_bk36 : bd_36.all (m_okb 36) = true := by decide +kernel
theorem m_bk37 : bd_37.all (m_okb 37) = true := by decide +kernel
theorem m_bk38 : bd_38.all (m_okb 38) = true := by decide +kernel
theorem m_bk39 : bd_39.all (m_okb 39) = true := by decide +kernel
theorem m_bk40 : bd_40.all (m_okb 40) = true := by decide +kernel
theorem m_bk41 : bd_41.all (m_okb 41) = true := by decide +kernel
theorem m_bk42 : bd_42.all (m_okb 42) = true := by decide +kernel
theorem m_bk43 : bd_43.all (m_okb 43) = true := by decide +kernel
theorem m_bk44 : bd_44.all (m_okb 44) = true := by decide +kernel
theorem m_bk45 : bd_45.all (m_okb 45) = true := by decide +kernel
theorem m_bk46 : bd_46.all (m_okb 46) = true := by decide +kernel
theorem m_bk47 : bd_47.all (m_okb 47) = true := by decide +kernel
theorem m_bk48 : bd_48.all (m_okb 48) = true := by decide +kernel
theorem m_bk49 : bd_49.all (m_okb 49) = true := by decide +kernel
theorem m_bk50 : bd_50.all (m_okb 50) = true := by decide +kernel
theorem m_bk51 : bd_51.all (m_okb 51) = true := by decide +kernel
theorem m_bk52 : bd_52.all (m_okb 52) = true := by decide +kernel
theorem m_bk53 : bd_53.all (m_okb 53) = true := by decide +kernel
theorem m_bk54 : bd_54.all (m_okb 54) = true := by decide +kernel
theorem m_bk55 : bd_55.all (m_okb 55) = true := by decide +kernel
theorem m_bk56 : bd_56.all (m_okb 56) = true := by decide +kernel
theorem m_bk57 : bd_57.all (m_okb 57) = true := by decide +kernel
theorem m_bk58 : bd_58.all (m_okb 58) = true := by decide +kernel
theorem m_bk59 : bd_59.all (m_okb 59) = true := by decide +kernel
theorem m_bk60 : bd_60.all (m_okb 60) = true := by decide +kernel
theorem m_bk61 : bd_61.all (m_okb 61) = true := by decide +kernel
theorem m_bk62 : bd_62.all (m_okb 62) = true := by decide +kernel
theorem m_bk63 : bd_63.all (m_okb 63) = true := by decide +kernel
theorem m_bk64 : bd_64.all (m_okb 64) = true := by decide +kernel
theorem m_bk65 : bd_65.all (m_okb 65) = true := by decide +kernel
theorem m_bk66 : bd_66.all (m_okb 66) = true := by decide +kernel
theorem m_bk67 : bd_67.all (m_okb 67) = true := by decide +kernel
theorem m_bk68 : bd_68.all (m_okb 68) = true := by decide +kernel
theorem m_bk69 : bd_69.all (m_okb 69) = true := by decide +kernel
theorem m_bk70 : bd_70.all (m_okb 70) = true := by decide +kernel
theorem m_bk71 : bd_71.all (m_okb 71) = true := by decide +kernel
theorem m_bk72 : bd_72.all (m_okb 72) = true := by decide +kernel
theorem m_bk73 : bd_73.all (m_okb 73) = true := by decide +kernel
theorem m_bk74 : bd_74.all (m_okb 74) = true := by decide +kernel
theorem m_bk75 : bd_75.all (m_okb 75) = true := by decide +kernel
theorem m_bk76 : bd_76.all (m_okb 76) = true := by decide +kernel
theorem m_bk77 : bd_77.all (m_okb 77) = true := by decide +kernel
theorem m_bk78 : bd_78.all (m_okb 78) = true := by decide +kernel
theorem m_bk79 : bd_79.all (m_okb 79) = true := by decide +kernel
theorem m_bk80 : bd_80.all (m_okb 80) = true := by decide +kernel
theorem m_bk81 : bd_81.all (m_okb 81) = true := by decide +kernel
theorem m_bk82 : bd_82.all (m_okb 82) = true := by decide +kernel
theorem m_bk83 : bd_83.all (m_okb 83) = true := by decide +kernel
theorem m_bk84 : bd_84.all (m_okb 84) = true := by decide +kernel
theorem m_bk85 : bd_85.all (m_okb 85) = true := by decide +kernel
theorem m_bk86 : bd_86.all (m_okb 86) = true := by decide +kernel
theorem m_bk87 : bd_87.all (m_okb 87) = true := by decide +kernel
theorem m_bk88 : bd_88.all (m_okb 88) = true := by decide +kernel
theorem m_bk89 : bd_89.all (m_okb 89) = true := by decide +kernel
theorem m_bk90 : bd_90.all (m_okb 90) = true := by decide +kernel
theorem m_bk91 : bd_91.all (m_okb 91) = true := by decide +kernel
theorem m_bk92 : bd_92.all (m_okb 92) = true := by decide +kernel
theorem m_bk93 : bd_93.all (m_okb 93) = true := by decide +kernel
theorem m_bk94 : bd_94.all (m_okb 94) = true := by decide +kernel
theorem m_bk95 : bd_95.all (m_okb 95) = true := by decide +kernel
theorem m_bk96 : bd_96.all (m_okb 96) = true := by decide +kernel
theorem m_bk97 : bd_97.all (m_okb 97) = true := by decide +kernel
theorem m_bk98 : bd_98.all (m_okb 98) = true := by decide +kernel
theorem m_bk99 : bd_99.all (m_okb 99) = true := by decide +kernel
theorem m_bk100 : bd_100.all (m_okb 100) = true := by decide +kernel
theorem m_bk101 : bd_101.all (m_okb 101) = true := by decide +kernel
theorem m_bk102 : bd_102.all (m_okb 102) = true := by decide +kernel
theorem m_bk103 : bd_103.all (m_okb 103) = true := by decide +kernel
theorem m_bk104 : bd_104.all (m_okb 104) = true := by decide +kernel
theorem m_bk105 : bd_105.all (m_okb 105) = true := by decide +kernel
theorem m_bk106 : bd_106.all (m_okb 106) = true := by decide +kernel
theorem m_bk107 : bd_107.all (m_okb 107) = true := by decide +kernel
theorem m_bk108 : bd_108.all (m_okb 108) = true := by decide +kernel
theorem m_bk109 : bd_109.all (m_okb 109) = true := by decide +kernel
theorem m_bk110 : bd_110.all (m_okb 110) = true := by decide +kernel
theorem m_bk111 : bd_111.all (m_okb 111) = true := by decide +kernel
theorem m_bk112 : bd_112.all (m_okb 112) = true := by decide +kernel
theorem m_bk113 : bd_113.all (m_okb 113) = true := by decide +kernel
theorem m_bk114 : bd_114.all (m_okb 114) = true := by decide +kernel
theorem m_bk115 : bd_115.all (m_okb 115) = true := by decide +kernel
theorem m_bk116 : bd_116.all (m_okb 116) = true := by decide +kernel
theorem m_bk117 : bd_117.all (m_okb 117) = true := by decide +kernel
theorem m_bk118 : bd_118.all (m_okb 118) = true := by decide +kernel
theorem m_bk119 : bd_119.all (m_okb 119) = true := by decide +kernel
theorem m_bk120 : bd_120.all (m_okb 120) = true := by decide +kernel
theorem m_bk121 : bd_121.all (m_okb 121) = true := by decide +kernel
theorem m_bk122 : bd_122.all (m_okb 122) = true := by decide +kernel
theorem m_bk123 : bd_123.all (m_okb 123) = true := by decide +kernel
theorem m_bk124 : bd_124.all (m_okb 124) = true := by decide +kernel
theorem m_bk125 : bd_125.all (m_okb 125) = true := by decide +kernel
theorem m_bk126 : bd_126.all (m_okb 126) = true := by decide +kernel
theorem m_bk127 : bd_127.all (m_okb 127) = true := by decide +kernel
theorem m_bk128 : bd_128.all (m_okb 128) = true := by decide +kernel
theorem m_bk129 : bd_129.all (m_okb 129) = true := by decide +kernel
theorem m_bk130 : bd_130.all (m_okb 130) = true := by decide +kernel
theorem m_bk131 : bd_131.all (m_okb 131) = true := by decide +kernel
theorem m_bk132 : bd_132.all (m_okb 132) = true := by decide +kernel
theorem m_bk133 : bd_133.all (m_okb 133) = true := by decide +kernel
theorem m_bk134 : bd_134.all (m_okb 134) = true := by decide +kernel
theorem m_bk135 : bd_135.all (m_okb 135) = true := by decide +kernel
theorem m_bk136 : bd_136.all (m_okb 136) = true := by decide +kernel
theorem m_bk137 : bd_137.all (m_okb 137) = true := by decide +kernel
theorem m_bk138 : bd_138.all (m_okb 138) = true := by decide +kernel
theorem m_bk139 : bd_139.all (m_okb 139) = true := by decide +kernel
theorem m_bk140 : bd_140.all (m_okb 140) = true := by decide +kernel
theorem m_bk141 : bd_141.all (m_okb 141) = true := by decide +kernel
theorem m_bk142 : bd_142.all (m_okb 142) = true := by decide +kernel
theorem m_bk143 : bd_143.all (m_okb 143) = true := by decide +kernel
theorem m_bk144 : bd_144.all (m_okb 144) = true := by decide +kernel
theorem m_bk145 : bd_145.all (m_okb 145) = true := by decide +kernel
theorem m_bk146 : bd_146.all (m_okb 146) = true := by decide +kernel
theorem m_bk147 : bd_147.all (m_okb 147) = true := by decide +kernel
theorem m_bk148 : bd_148.all (m_okb 148) = true := by decide +kernel
theorem m_bk : ∀ mi, ∀ e ∈ m_bodies.getD mi [], m_okb mi e = true := by
  intro mi e he
  match mi, he with
  | 0, he => exact List.all_eq_true.mp m_bk0 e he
  | 1, he => exact List.all_eq_true.mp m_bk1 e he
  | 2, he => exact List.all_eq_true.mp m_bk2 e he
  | 3, he => exact List.all_eq_true.mp m_bk3 e he
  | 4, he => exact List.all_eq_true.mp m_bk4 e he
  | 5, he => exact List.all_eq_true.mp m_bk5 e he
  | 6, he => exact List.all_eq_true.mp m_bk6 e he
  | 7, he => exact List.all_eq_true.mp m_bk7 e he
  | 8, he => exact List.all_eq_true.mp m_bk8 e he
  | 9, he => exact List.all_eq_true.mp m_bk9 e he
  | 10, he => exact List.all_eq_true.mp m_bk10 e he
  | 11, he => exact List.all_eq_true.mp m_bk11 e he
  | 12, he => exact List.all_eq_true.mp m_bk12 e he
  | 13, he => exact List.all_eq_true.mp m_bk13 e he
  | 14, he => exact List.all_eq_true.mp m_bk14 e he
  | 15, he => exact List.all_eq_true.mp m_bk15 e he
  | 16, he => exact List.all_eq_true.mp m_bk16 e he
  | 17, he => exact List.all_eq_true.mp m_bk17 e he
  | 18, he => exact List.all_eq_true.mp m_bk18 e he
  | 19, he => exact List.all_eq_true.mp m_bk19 e he
  | 20, he => exact List.all_eq_true.mp m_bk20 e he
  | 21, he => exact List.all_eq_true.mp m_bk21 e he
  | 22, he => exact List.all_eq_true.mp m_bk22 e he
  | 23, he => exact List.all_eq_true.mp m_bk23 e he
  | 24, he => exact List.all_eq_true.mp m_bk24 e he
  | 25, he => exact List.all_eq_true.mp m_bk25 e he
  | 26, he => exact List.all_eq_true.mp m_bk26 e he
  | 27, he => exact List.all_eq_true.mp m_bk27 e he
  | 28, he => exact List.all_eq_true.mp m_bk28 e he
  | 29, he => exact List.all_eq_true.mp m_bk29 e he
  | 30, he => exact List.all_eq_true.mp m_bk30 e he
  | 31, he => exact List.all_eq_true.mp m_bk31 e he
  | 32, he => exact List.all_eq_true.mp m_bk32 e he
  | 33, he => exact List.all_eq_true.mp m_bk33 e he
  | 34, he => exact List.all_eq_true.mp m_bk34 e he
  | 35, he => exact List.all_eq_true.mp m_bk35 e he
  | 36, he => exact List.all_eq_true.mp m_bk36 e he
  | 37, he => exact List.all_eq_true.mp m_bk37 e he
  | 38, he => exact List.all_eq_true.mp m_bk38 e he
  | 39, he => exact List.all_eq_true.mp m_bk39 e he
  | 40, he => exact List.all_eq_true.mp m_bk40 e he
  | 41, he => exact List.all_eq_true.mp m_bk41 e he
  | 42, he => exact List.all_eq_true.mp m_bk42 e he
  | 43, he => exact List.all_eq_true.mp m_bk43 e he
  | 44, he => exact List.all_eq_true.mp m_bk44 e he
  | 45, he => exact List.all_eq_true.mp m_bk45 e he
  | 46, he => exact List.all_eq_true.mp m_bk46 e he
  | 47, he => exact List.all_eq_true.mp m_bk47 e he
  | 48, he => exact List.all_eq_true.mp m_bk48 e he
  | 49, he => exact List.all_eq_true.mp m_bk49 e he
  | 50, he => exact List.all_eq_true.mp m_bk50 e he
  | 51, he => exact List.all_eq_true.mp m_bk51 e he
  | 52, he => exact List.all_eq_true.mp m_bk52 e he
  | 53, he => exact List.all_eq_true.mp m_bk53 e he
  | 54, he => exact List.all_eq_true.mp m_bk54 e he
  | 55, he => exact List.all_eq_true.mp m_bk55 e he
  | 56, he => exact List.all_eq_true.mp m_bk56 e he
  | 57, he => exact List.all_eq_true.mp m_bk57 e he
  | 58, he => exact List.all_eq_true.mp m_bk58 e he
  | 59, he => exact List.all_eq_true.mp m_bk59 e he
  | 60, he => exact List.all_eq_true.mp m_bk60 e he
  | 61, he => exact List.all_eq_true.mp m_bk61 e he
  | 62, he => exact List.all_eq_true.mp m_bk62 e he
  | 63, he => exact List.all_eq_true.mp m_bk63 e he
  | 64, he => exact List.all_eq_true.mp m_bk64 e he
  | 65, he => exact List.all_eq_true.mp m_bk65 e he
  | 66, he => exact List.all_eq_true.mp m_bk66 e he
  | 67, he => exact List.all_eq_true.mp m_bk67 e he
  | 68, he => exact List.all_eq_true.mp m_bk68 e he
  | 69, he => exact List.all_eq_true.mp m_bk69 e he
  | 70, he => exact List.all_eq_true.mp m_bk70 e he
  | 71, he => exact List.all_eq_true.mp m_bk71 e he
  | 72, he => exact List.all_eq_true.mp m_bk72 e he
  | 73, he => exact List.all_eq_true.mp m_bk73 e he
  | 74, he => exact List.all_eq_true.mp m_bk74 e he
  | 75, he => exact List.all_eq_true.mp m_bk75 e he
  | 76, he => exact List.all_eq_true.mp m_bk76 e he
  | 77, he => exact List.all_eq_true.mp m_bk77 e he
  | 78, he => exact List.all_eq_true.mp m_bk78 e he
  | 79, he => exact List.all_eq_true.mp m_bk79 e he
  | 80, he => exact List.all_eq_true.mp m_bk80 e he
  | 81, he => exact List.all_eq_true.mp m_bk81 e he
  | 82, he => exact List.all_eq_true.mp m_bk82 e he
  | 83, he => exact List.all_eq_true.mp m_bk83 e he
  | 84, he => exact List.all_eq_true.mp m_bk84 e he
  | 85, he => exact List.all_eq_true.mp m_bk85 e he
  | 86, he => exact List.all_eq_true.mp m_bk86 e he
  | 87, he => exact List.all_eq_true.mp m_bk87 e he
  | 88, he => exact List.all_eq_true.mp m_bk88 e he
  | 89, he => exact List.all_eq_true.mp m_bk89 e he
  | 90, he => exact List.all_eq_true.mp m_bk90 e he
  | 91, he => exact List.all_eq_true.mp m_bk91 e he
  | 92, he => exact List.all_eq_true.mp m_bk92 e he
  | 93, he => exact List.all_eq_true.mp m_bk93 e he
  | 94, he => exact List.all_eq_true.mp m_bk94 e he
  | 95, he => exact List.all_eq_true.mp m_bk95 e he
  | 96, he => exact List.all_eq_true.mp m_bk96 e he
  | 97, he => exact List.all_eq_true.mp m_bk97 e he
  | 98, he => exact List.all_eq_true.mp m_bk98 e he
  | 99, he => exact List.all_eq_true.mp m_bk99 e he
  | 100, he => exact List.all_eq_true.mp m_bk100 e he
  | 101, he => exact List.all_eq_true.mp m_bk101 e he
  | 102, he => exact List.all_eq_true.mp m_bk102 e he
  | 103, he => exact List.all_eq_true.mp m_bk103 e he
  | 104, he => exact List.all_eq_true.mp m_bk104 e he
  | 105, he => exact List.all_eq_true.mp m_bk105 e he
  | 106, he => exact List.all_eq_true.mp m_bk106 e he
  | 107, he => exact List.all_eq_true.mp m_bk107 e he
  | 108, he => exact List.all_eq_true.mp m_bk108 e he
  | 109, he => exact List.all_eq_true.mp m_bk109 e he
  | 110, he => exact List.all_eq_true.mp m_bk110 e he
  | 111, he => exact List.all_eq_true.mp m_bk111 e he
  | 112, he => exact List.all_eq_true.mp m_bk112 e he
  | 113, he => exact List.all_eq_true.mp m_bk113 e he
  | 114, he => exact List.all_eq_true.mp m_bk114 e he
  | 115, he => exact List.all_eq_true.mp m_bk115 e he
  | 116, he => exact List.all_eq_true.mp m_bk116 e he
  | 117, he => exact List.all_eq_true.mp m_bk117 e he
  | 118, he => exact List.all_eq_true.mp m_bk118 e he
  | 119, he => exact List.all_eq_true.mp m_bk119 e he
  | 120, he => exact List.all_eq_true.mp m_bk120 e he
  | 121, he => exact List.all_eq_true.mp m_bk121 e he
  | 122, he => exact List.all_eq_true.mp m_bk122 e he
  | 123, he => exact List.all_eq_true.mp m_bk123 e he
  | 124, he => exact List.all_eq_true.mp m_bk124 e he
  | 125, he => exact List.all_eq_true.mp m_bk125 e he
  | 126, he => exact List.all_eq_true.mp m_bk126 e he
  | 127, he => exact List.all_eq_true.mp m_bk127 e he
  | 128, he => exact List.all_eq_true.mp m_bk128 e he
  | 129, he => exact List.all_eq_true.mp m_bk129 e he
  | 130, he => exact List.all_eq_true.mp m_bk130 e he
  | 131, he => exact List.all_eq_true.mp m_bk131 e he
  | 132, he => exact List.all_eq_true.mp m_bk132 e he
  | 133, he => exact List.all_eq_true.mp m_bk133 e he
  | 134, he => exact List.all_eq_true.mp m_bk134 e he
  | 135, he => exact List.all_eq_true.mp m_bk135 e he
  | 136, he => exact List.all_eq_true.mp m_bk136 e he
  | 137, he => exact List.all_eq_true.mp m_bk137 e he
  | 138, he => exact List.all_eq_true.mp m_bk138 e he
  | 139, he => exact List.all_eq_true.mp m_bk139 e he
  | 140, he => exact List.all_eq_true.mp m_bk140 e he
  | 141, he => exact List.all_eq_true.mp m_bk141 e he
  | 142, he => exact List.all_eq_true.mp m_bk142 e he
  | 143, he => exact List.all_eq_true.mp m_bk143 e he
  | 144, he => exact List.all_eq_true.mp m_bk144 e he
  | 145, he => exact List.all_eq_true.mp m_bk145 e he
  | 146, he => exact List.all_eq_true.mp m_bk146 e he
  | 147, he => exact List.all_eq_true.mp m_bk147 e he
  | 148, he => exact List.all_eq_true.mp m_bk148 e he
  | k + 149, he => exact absurd he (by rw [List.getD_eq_getElem?_getD, List.getElem?_eq_none (by show 149 ≤ k + 149; omega)]; exact List.not_mem_nil)

theorem m_fetch_ok {mi pc : Nat} {e : BE} (h : m_fetch mi pc = some e) : e.1 = pc ∧ m_okb mi e = true := by
  refine ⟨?_, m_bk mi e (List.mem_of_find?_eq_some h)⟩
  have := List.find?_some h
  simpa using this
end
section
def m_ri : Option mPV → Instr
  | none => .return_
  | some _ => .ireturn
def m_rv (N0 : Nat) : Option mPV → List Value
  | none => []
  | some v => [m_cv N0 v]
def m_rok (mi : Nat) : Option mPV → Prop
  | none => m_ret mi = none
  | some (.inl x) => m_ret mi = some .int ∨ (m_ret mi = some .boolean ∧ (x = 0 ∨ x = 1))
  | _ => False
def m_tys (aI : Nat → ClassId) : List (ClassId × FieldType) := [(aI 0, .int), (aI 1, .char), (aI 2, .long)]
/-- where a method's walk stands: machine, code, words, classes; X: the script's cell, its length, its ints (the law's own) -/
def m_ctx (X : Nat × Nat × (Nat → Int32)) (mi : Nat) (p : Program) (s : State) (m : MethodId) (args : Array Value) (meth : Method) (c : Code) (N0 : Nat) (aI : Nat → ClassId) (D : va_G) : Prop :=
  p.tables.exec = Jvm.exec ∧ c.code = m_cd mi ∧ c.maxLocals = m_ml mi ∧ s.vm.findClass (m_own mi) = some m.cls ∧ (∀ w ∈ lw_g, w.before args s = true) ∧ (m_kind mi = 2 → meth.name = "<init>") ∧ va_K D vwCl (m_tys aI) s ∧ N0 ≤ s.heap.size ∧ (mi = 0 → va_X X.1 X.2.1 X.2.2 s s.heap ∧ X.1 < N0)
def m_fin (mi : Nat) (Q : Option mPV → mPW → Prop) (p : Program) (l : Launch) (e : Env) (s : State) (m : MethodId) (args : Array Value) (below : List Frame) (meth : Method) (c : Code) (N0 : Nat) (aI : Nat → ClassId) (D : va_G) (Qf : State → Prop) : Prop :=
  ∀ (r : Option mPV) (w : mPW) (H : Heap) (locs : List Loc) (n pc : Nat) (ls : Array Slot), Q r w → m_rok mi r → va_P D vwCl (m_cw N0 aI 0 w) H → va_S (fun q => N0 ≤ q) s.heap H locs → s.heap.size + (m_rm mi).cells = N0 + w.length → n ≤ (m_rm mi).slots → decode (m_cd mi) pc = .ok (m_ri r, 1) →
    W p l e (m_rm mi) s m args below meth c H locs (m_rm mi).cells n Qf (F0 m pc ls (m_rv N0 r))
def m_Sem (X : Nat × Nat × (Nat → Int32)) (mi : Nat) (ps : mPS) (Q : Option mPV → mPW → Prop) : Prop :=
  ∀ (p : Program) (l : Launch) (e : Env) (s : State) (m : MethodId) (args : Array Value) (below : List Frame) (meth : Method) (c : Code) (N0 : Nat) (aI : Nat → ClassId) (D : va_G) (Qf : State → Prop),
  m_ctx X mi p s m args meth c N0 aI D → m_fin mi Q p l e s m args below meth c N0 aI D Qf →
  ∀ (H : Heap) (locs : List Loc) (ls : Array Slot) (k n : Nat), lv_has ls (m_ml mi) (m_as N0 0 ps.2.1) → ps.2.1.length = m_ml mi → va_P D vwCl (m_cw N0 aI 0 ps.2.2.2.1) H → va_S (fun q => N0 ≤ q) s.heap H locs → s.heap.size + k = N0 + ps.2.2.2.1.length → k + ps.2.2.2.2.1 = (m_rm mi).cells → n + ps.2.2.2.2.2 ≤ (m_rm mi).slots →
  W p l e (m_rm mi) s m args below meth c H locs k n Qf (F0 m ps.1 ls (ps.2.2.1.map (m_cv N0)))
def m_bin (f : Int → Int → Int) (pc : Nat) (L : List (Option mPV)) (w : mPW) (bc bs : Nat) : List mPV → Option mPS
  | .inl b :: .inl a :: S => some (pc + 1, L, .inl (f a b) :: S, w, bc, bs)
  | _ => none
def m_binL (f : Int64 → Int64 → Int64) (pc : Nat) (L : List (Option mPV)) (w : mPW) (bc bs : Nat) : List mPV → Option mPS
  | .inr (.inr (.long b)) :: .inr (.inr (.long a)) :: S => some (pc + 1, L, .inr (.inr (.long (f a b))) :: S, w, bc, bs)
  | _ => none
def m_ldI (o : Option (Option mPV)) (pc : Nat) (L : List (Option mPV)) (S : List mPV) (w : mPW) (bc bs : Nat) : Option mPS := match o with
  | some (some (.inl v)) => some (pc, L, .inl v :: S, w, bc, bs)
  | _ => none
def m_ldA (o : Option (Option mPV)) (pc : Nat) (L : List (Option mPV)) (S : List mPV) (w : mPW) (bc bs : Nat) : Option mPS := match o with
  | some (some (.inr (.inl v))) => some (pc, L, .inr (.inl v) :: S, w, bc, bs)
  | some (some (.inr (.inr (.ref v)))) => some (pc, L, .inr (.inr (.ref v)) :: S, w, bc, bs)
  | _ => none
def m_ldL (o : Option (Option mPV)) (pc : Nat) (L : List (Option mPV)) (S : List mPV) (w : mPW) (bc bs : Nat) : Option mPS := match o with
  | some (some (.inr (.inr (.long v)))) => some (pc, L, .inr (.inr (.long v)) :: S, w, bc, bs)
  | _ => none
def m_ldF (o : Option (Option mPV)) (pc : Nat) (L : List (Option mPV)) (S : List mPV) (w : mPW) (bc bs : Nat) : Option mPS := match o with
  | some (some (.inr (.inr (.float v)))) => some (pc, L, .inr (.inr (.float v)) :: S, w, bc, bs)
  | _ => none
def m_stI (i pc : Nat) (L : List (Option mPV)) (w : mPW) (bc bs : Nat) : List mPV → Option mPS
  | .inl v :: S => bif Nat.blt i L.length then some (pc, m_st L i (.inl v), S, w, bc, bs) else none
  | _ => none
def m_stA (i pc : Nat) (L : List (Option mPV)) (w : mPW) (bc bs : Nat) : List mPV → Option mPS
  | .inr (.inl v) :: S => bif Nat.blt i L.length then some (pc, m_st L i (.inr (.inl v)), S, w, bc, bs) else none
  | _ => none
def m_stF (i pc : Nat) (L : List (Option mPV)) (w : mPW) (bc bs : Nat) : List mPV → Option mPS
  | .inr (.inr (.float v)) :: S => bif Nat.blt i L.length then some (pc, m_st L i (.inr (.inr (.float v))), S, w, bc, bs) else none
  | _ => none
def m_stL (i pc : Nat) (L : List (Option mPV)) (w : mPW) (bc bs : Nat) : List mPV → Option mPS
  | .inr (.inr (.long v)) :: S => bif Nat.blt (i + 1) L.length then some (pc, m_st2 L i (.inr (.inr (.long v))), S, w, bc, bs) else none
  | _ => none
def m_dfl : List (List mPV) := [[.inr (.inr .null), .inr (.inr .null), .inl 0], [.inr (.inr .null), .inr (.inr .null), .inr (.inr .null), .inl 0, .inl 0, .inl 0], [.inr (.inr .null)], [.inl 0, .inr (.inr .null)], [.inr (.inr .null), .inl 0], [.inr (.inr .null), .inr (.inr .null), .inr (.inr .null), .inr (.inr .null), .inr (.inr .null)], [.inr (.inr .null), .inr (.inr .null), .inl 0, .inr (.inr .null), .inl 0, .inl 0, .inl 0, .inl 0, .inr (.inr .null), .inr (.inr .null), .inr (.inr .null), .inl 0, .inl 0]]
def m_getf (x y pc : Nat) (L : List (Option mPV)) (w : mPW) (bc bs : Nat) : List mPV → Option mPS
  | .inr (.inl q) :: S => match w[q]? with
    | some (.inr (ci, fs)) => bif Nat.beq ci x then (match fs[y]? with | some v => some (pc, L, v :: S, w, bc, bs) | none => none) else none
    | _ => none
  | _ => none
def m_putI (x y pc : Nat) (L : List (Option mPV)) (w : mPW) (bc bs : Nat) : List mPV → Option mPS
  | .inl v :: .inr (.inl q) :: S => match w[q]? with
    | some (.inr (ci, fs)) => bif Nat.beq ci x && Nat.blt y fs.length then some (pc, L, S, w.set q (.inr (ci, fs.set y (.inl v))), bc, bs) else none
    | _ => none
  | _ => none
def m_putA (x y pc : Nat) (L : List (Option mPV)) (w : mPW) (bc bs : Nat) : List mPV → Option mPS
  | .inr (.inl v) :: .inr (.inl q) :: S => match w[q]? with
    | some (.inr (ci, fs)) => bif Nat.beq ci x && Nat.blt y fs.length then some (pc, L, S, w.set q (.inr (ci, fs.set y (.inr (.inl v)))), bc, bs) else none
    | _ => none
  | _ => none
def m_newo (x pc : Nat) (L : List (Option mPV)) (S : List mPV) (w : mPW) (bc bs : Nat) : Option mPS := match vwCl[x]?, m_dfl[x]?, bc with
  | some r, some fs, b + 1 => bif Nat.ble r.2.2 bs then some (pc, L, .inr (.inl w.length) :: S, w ++ [.inr (x, fs)], b, bs - r.2.2) else none
  | _, _, _ => none
def m_newr (x pc : Nat) (L : List (Option mPV)) (w : mPW) (bc bs : Nat) : List mPV → Option mPS
  | .inl (.ofNat v) :: S => match bc with
    | b + 1 => bif Nat.ble v bs && Nat.ble v 65536 && Nat.blt x 3 then some (pc, L, .inr (.inl w.length) :: S, w ++ [.inl (x, v, bif Nat.beq x 2 then .inr (fun _ => 0) else .inl (fun _ => 0))], b, bs - v) else none
    | _ => none
  | _ => none
def m_exec (mi : Nat) (ins : Instr) (x y : Nat) (z : Int) (pc : Nat) (L : List (Option mPV)) (S : List mPV) (w : mPW) (bc bs : Nat) : Option mPS := match ins with
  | .iload i => m_ldI L[i]? (pc + 2) L S w bc bs
  | .iload_n i => m_ldI L[(i : Nat)]? (pc + 1) L S w bc bs
  | .aload i => m_ldA L[i]? (pc + 2) L S w bc bs
  | .aload_n i => m_ldA L[(i : Nat)]? (pc + 1) L S w bc bs
  | .lload i => m_ldL L[i]? (pc + 2) L S w bc bs
  | .lload_n i => m_ldL L[(i : Nat)]? (pc + 1) L S w bc bs
  | .fload_n i => m_ldF L[(i : Nat)]? (pc + 1) L S w bc bs
  | .istore i => m_stI i (pc + 2) L w bc bs S
  | .istore_n i => m_stI (i : Nat) (pc + 1) L w bc bs S
  | .astore_n i => m_stA (i : Nat) (pc + 1) L w bc bs S
  | .lstore i => m_stL i (pc + 2) L w bc bs S
  | .lstore_n i => m_stL (i : Nat) (pc + 1) L w bc bs S
  | .fstore_n i => m_stF (i : Nat) (pc + 1) L w bc bs S
  | .iconst v => some (pc + 1, L, .inl v :: S, w, bc, bs)
  | .bipush _ => some (pc + 2, L, .inl z :: S, w, bc, bs)
  | .sipush _ => some (pc + 3, L, .inl z :: S, w, bc, bs)
  | .ldc _ => bif Nat.beq y 0 then some (pc + 2, L, .inl z :: S, w, bc, bs) else some (pc + 2, L, .inr (.inr (.float (UInt32.ofNat z.toNat))) :: S, w, bc, bs)
  | .ldc_w _ => bif Nat.beq y 0 then some (pc + 3, L, .inl z :: S, w, bc, bs) else none
  | .lconst v => some (pc + 1, L, .inr (.inr (.long (Int64.ofNat (v : Nat)))) :: S, w, bc, bs)
  | .fconst v => match v with
    | 0 => some (pc + 1, L, .inr (.inr (.float FP.fconst0)) :: S, w, bc, bs)
    | 1 => some (pc + 1, L, .inr (.inr (.float FP.fconst1)) :: S, w, bc, bs)
    | 2 => some (pc + 1, L, .inr (.inr (.float FP.fconst2)) :: S, w, bc, bs)
  | .iadd => m_bin (fun a b => a + b) pc L w bc bs S
  | .isub => m_bin (fun a b => a - b) pc L w bc bs S
  | .imul => m_bin (fun a b => a * b) pc L w bc bs S
  | .iand => m_bin (fun a b => (Int32.ofInt a &&& Int32.ofInt b).toInt) pc L w bc bs S
  | .ior => m_bin (fun a b => (Int32.ofInt a ||| Int32.ofInt b).toInt) pc L w bc bs S
  | .ixor => m_bin (fun a b => (Int32.ofInt a ^^^ Int32.ofInt b).toInt) pc L w bc bs S
  | .ishl => m_bin (fun a b => (Int32.ofInt a <<< (Int32.ofInt b &&& 31)).toInt) pc L w bc bs S
  | .ishr => m_bin (fun a b => (Int32.ofInt a >>> (Int32.ofInt b &&& 31)).toInt) pc L w bc bs S
  | .iushr => m_bin (fun a b => ((Int32.ofInt a).toUInt32 >>> ((Int32.ofInt b).toUInt32 &&& Int32.toUInt32 31)).toInt32.toInt) pc L w bc bs S
  | .land => m_binL (fun a b => a &&& b) pc L w bc bs S
  | .lor => m_binL (fun a b => a ||| b) pc L w bc bs S
  | .lsub => m_binL (fun a b => a - b) pc L w bc bs S
  | .lshl => match S with
    | .inl b :: .inr (.inr (.long a)) :: S => some (pc + 1, L, .inr (.inr (.long (a <<< ((Int32.ofInt b).toInt64 &&& 63)))) :: S, w, bc, bs)
    | _ => none
  | .lshr => match S with
    | .inl b :: .inr (.inr (.long a)) :: S => some (pc + 1, L, .inr (.inr (.long (a >>> ((Int32.ofInt b).toInt64 &&& 63)))) :: S, w, bc, bs)
    | _ => none
  | .lcmp => match S with
    | .inr (.inr (.long b)) :: .inr (.inr (.long a)) :: S => some (pc + 1, L, .inl (lg_cmp a b).toInt :: S, w, bc, bs)
    | _ => none
  | .l2i => match S with
    | .inr (.inr (.long a)) :: S => some (pc + 1, L, .inl a.toInt32.toInt :: S, w, bc, bs)
    | _ => none
  | .i2f => match S with
    | .inl a :: S => some (pc + 1, L, .inr (.inr (.float (FP.i2f (Int32.ofInt a)))) :: S, w, bc, bs)
    | _ => none
  | .f2i => match S with
    | .inr (.inr (.float a)) :: S => some (pc + 1, L, .inl (FP.f2i a).toInt :: S, w, bc, bs)
    | _ => none
  | .fcmp o => match S with
    | .inr (.inr (.float b)) :: .inr (.inr (.float a)) :: S => some (pc + 1, L, .inl (Op.cmpValue (FP.fcmp a b) o).toInt :: S, w, bc, bs)
    | _ => none
  | .pop => match S with
    | v :: S => bif Nat.beq (m_cat v) 1 then some (pc + 1, L, S, w, bc, bs) else none
    | _ => none
  | .dup => match S with
    | v :: S => bif Nat.beq (m_cat v) 1 then some (pc + 1, L, v :: v :: S, w, bc, bs) else none
    | _ => none
  | .dup2 => match S with
    | u :: v :: S => bif Nat.beq (m_cat u) 1 && Nat.beq (m_cat v) 1 then some (pc + 1, L, u :: v :: u :: v :: S, w, bc, bs) else none
    | _ => none
  | .goto _ => some (x, L, S, w, bc, bs)
  | .iinc i d => match L[i]? with
    | some (some (.inl v)) => bif Nat.blt i L.length then some (pc + 3, m_st L i (.inl (v + d)), S, w, bc, bs) else none
    | _ => none
  | .arraylength => match S with
    | .inr (.inl q) :: S => match w[q]? with
      | some (.inl (t, v, _)) => bif Nat.blt t 3 then some (pc + 1, L, .inl (v : Int) :: S, w, bc, bs) else none
      | _ => none
    | _ => none
  | .getfield _ => m_getf x y (pc + 3) L w bc bs S
  | .putfield _ => if z = 0 then m_putI x y (pc + 3) L w bc bs S else m_putA x y (pc + 3) L w bc bs S
  | .new _ => m_newo x (pc + 3) L S w bc bs
  | .newarray _ => m_newr x (pc + 2) L w bc bs S
  | .invokespecial _ => match S with
    | .inr (.inl _) :: S => bif Nat.beq x 1000 && (Nat.ble 1 (m_rm mi).frames && Nat.ble ((S.map m_cat).sum + 12) (m_rm mi).locals) then some (pc + 3, L, S, w, bc, bs) else none
    | _ => none
  | _ => none
theorem m_cats (N0 : Nat) (S : List mPV) : ((S.map (m_cv N0)).map fun v => v.category).sum = (S.map m_cat).sum := by
  rw [List.map_map]
  congr 1
  exact List.map_congr_left (fun v _ => m_cat_cv N0 v)
theorem m_uw : ∀ (ci : Nat) (r : vw_C), vwCl[ci]? = some r → ∀ w ∈ u_ws r.1 r.2.1 r.2.2, w ∈ lw_g := by
  intro ci r h
  match ci, h with
  | 0, h => cases h; exact m_uw0
  | 1, h => cases h; exact m_uw1
  | 2, h => cases h; exact m_uw2
  | 3, h => cases h; exact m_uw3
  | 4, h => cases h; exact m_uw4
  | 5, h => cases h; exact m_uw5
  | 6, h => cases h; exact m_uw6
  | k + 7, h => exact absurd h (by rw [List.getElem?_eq_none (by show 7 ≤ k + 7; omega)]; intro h; cases h)
theorem m_vt : ∀ (ci : Nat) (r : vw_C), vwCl[ci]? = some r → ∃ ty0 : Nat → FieldType, (∀ k, k < r.2.2 → parseFieldDescriptor (r.2.1 k).2.2.1 = some (ty0 k)) ∧ (∀ a, a < r.2.2 → ∀ b, b < r.2.2 → a ≠ b → (r.2.1 a).2.1 ≠ (r.2.1 b).2.1) ∧ (∀ fs, m_dfl[ci]? = some fs → ∀ N0 j, j < r.2.2 → defaultValue (ty0 j) = vp_V (fs.map (m_cv N0)) j) := by
  intro ci r h
  match ci, h with
  | 0, h =>
    cases h
    exact ⟨tyX0, tyX0_ok, nmX0, fun fs hfs N0 j hj => by
      cases hfs
      have hj : j < 3 := hj
      rcases (show j = 0 ∨ j = 1 ∨ j = 2 by omega) with rfl | rfl | rfl <;> rfl⟩
  | 1, h =>
    cases h
    exact ⟨tyX2, tyX2_ok, nmX2, fun fs hfs N0 j hj => by
      cases hfs
      have hj : j < 6 := hj
      rcases (show j = 0 ∨ j = 1 ∨ j = 2 ∨ j = 3 ∨ j = 4 ∨ j = 5 by omega) with rfl | rfl | rfl | rfl | rfl | rfl <;> rfl⟩
  | 2, h =>
    cases h
    exact ⟨tyX3, tyX3_ok, nmX3, fun fs hfs N0 j hj => by
      cases hfs
      have hj : j < 1 := hj
      rcases (show j = 0 by omega) with rfl <;> rfl⟩
  | 3, h =>
    cases h
    exact ⟨tyX4, tyX4_ok, nmX4, fun fs hfs N0 j hj => by
      cases hfs
      have hj : j < 2 := hj
      rcases (show j = 0 ∨ j = 1 by omega) with rfl | rfl <;> rfl⟩
  | 4, h =>
    cases h
    exact ⟨tyX5, tyX5_ok, nmX5, fun fs hfs N0 j hj => by
      cases hfs
      have hj : j < 2 := hj
      rcases (show j = 0 ∨ j = 1 by omega) with rfl | rfl <;> rfl⟩
  | 5, h =>
    cases h
    exact ⟨tyX6, tyX6_ok, nmX6, fun fs hfs N0 j hj => by
      cases hfs
      have hj : j < 5 := hj
      rcases (show j = 0 ∨ j = 1 ∨ j = 2 ∨ j = 3 ∨ j = 4 by omega) with rfl | rfl | rfl | rfl | rfl <;> rfl⟩
  | 6, h =>
    cases h
    exact ⟨tyX7, tyX7_ok, nmX7, fun fs hfs N0 j hj => by
      cases hfs
      have hj : j < 13 := hj
      rcases (show j = 0 ∨ j = 1 ∨ j = 2 ∨ j = 3 ∨ j = 4 ∨ j = 5 ∨ j = 6 ∨ j = 7 ∨ j = 8 ∨ j = 9 ∨ j = 10 ∨ j = 11 ∨ j = 12 by omega) with rfl | rfl | rfl | rfl | rfl | rfl | rfl | rfl | rfl | rfl | rfl | rfl | rfl <;> rfl⟩
  | k + 7, h => exact absurd h (by rw [List.getElem?_eq_none (by show 7 ≤ k + 7; omega)]; intro h; cases h)
theorem m_size {X : Nat × Nat × (Nat → Int32)} {mi : Nat} {p : Program} {l : Launch} {e : Env} {R : Room} {s : State} {m : MethodId} {args : Array Value} {below : List Frame} {meth : Method} {c : Code} {N0 : Nat} {aI : Nat → ClassId} {D : va_G} {T : State} {locs : List Loc} {k n : Nat} {w : mPW}
    (h0 : N0 ≤ s.heap.size) (hP : va_P D vwCl (m_cw N0 aI 0 w) T.heap) (hS : va_S (fun q => N0 ≤ q) s.heap T.heap locs) (hk : s.heap.size + k = N0 + w.length) (X : Stand p l e R s m args below meth c T locs k n) : T.heap.size = N0 + w.length := by
  have h1 := X.heapSize
  have h2 : N0 + w.length ≤ T.heap.size := by
    cases w with
    | nil =>
      have h3 := hS.1
      have h4 : N0 + ([] : mPW).length = N0 := rfl
      omega
    | cons a w =>
      have hlt : w.length < (a :: w).length := Nat.lt_succ_self _
      have h3 := (hP w.length _ (m_cw_at (List.getElem?_eq_getElem hlt))).lt
      have h4 : N0 + w.length < T.heap.size := h3
      show N0 + (w.length + 1) ≤ _
      omega
  omega
set_option maxHeartbeats 4000000 in
set_option maxRecDepth 100000 in
theorem m_x_iload {X : Nat × Nat × (Nat → Int32)} {mi pc x y : Nat} {i : Nat} {z : Int} {L : List (Option mPV)} {S : List mPV} {w : mPW} {bc bs : Nat} {ps' : mPS} {Q : Option mPV → mPW → Prop} (hf : m_fetch mi pc = some (pc, (.iload i), x, y, z)) (he : m_exec mi (.iload i) x y z pc L S w bc bs = some ps') (K : m_Sem X mi ps' Q) : m_Sem X mi (pc, L, S, w, bc, bs) Q := by
  intro p l e s m args below meth c N0 aI D Qf hC hF H locs ls k n hl hlen hP hS hk hb1 hb2
  have hok := (m_fetch_ok hf).2
  obtain ⟨hx, hb, hml, hown, hts, hin, hK, h0, hX⟩ := id hC
  unfold m_okb at hok
  simp only [Bool.and_eq_true] at hok
  obtain ⟨hok1, hok2⟩ := hok
  dsimp only at hok1 hok2 hl hlen hP hS hk hb1 hb2
  have hdec := of_decide_eq_true hok1
  dsimp only [m_len] at hdec
  simp only [m_exec, m_ldI] at he
  split at he
  next hv =>
    cases he
    refine lv_iload hx hb hdec (m_has_get hl hv) ?_
    exact K p l e s m args below meth c N0 aI D Qf hC hF H locs ls k n hl hlen hP hS hk hb1 hb2
  next => cases he
set_option maxHeartbeats 4000000 in
set_option maxRecDepth 100000 in
theorem m_x_lload {X : Nat × Nat × (Nat → Int32)} {mi pc x y : Nat} {i : Nat} {z : Int} {L : List (Option mPV)} {S : List mPV} {w : mPW} {bc bs : Nat} {ps' : mPS} {Q : Option mPV → mPW → Prop} (hf : m_fetch mi pc = some (pc, (.lload i), x, y, z)) (he : m_exec mi (.lload i) x y z pc L S w bc bs = some ps') (K : m_Sem X mi ps' Q) : m_Sem X mi (pc, L, S, w, bc, bs) Q := by
  intro p l e s m args below meth c N0 aI D Qf hC hF H locs ls k n hl hlen hP hS hk hb1 hb2
  have hok := (m_fetch_ok hf).2
  obtain ⟨hx, hb, hml, hown, hts, hin, hK, h0, hX⟩ := id hC
  unfold m_okb at hok
  simp only [Bool.and_eq_true] at hok
  obtain ⟨hok1, hok2⟩ := hok
  dsimp only at hok1 hok2 hl hlen hP hS hk hb1 hb2
  have hdec := of_decide_eq_true hok1
  dsimp only [m_len] at hdec
  simp only [m_exec, m_ldL] at he
  split at he
  next hv =>
    cases he
    refine lv_lload hx hb hdec (m_has_get hl hv) ?_
    exact K p l e s m args below meth c N0 aI D Qf hC hF H locs ls k n hl hlen hP hS hk hb1 hb2
  next => cases he
set_option maxHeartbeats 4000000 in
set_option maxRecDepth 100000 in
theorem m_x_iload_n {X : Nat × Nat × (Nat → Int32)} {mi pc x y : Nat} {i : Fin 4} {z : Int} {L : List (Option mPV)} {S : List mPV} {w : mPW} {bc bs : Nat} {ps' : mPS} {Q : Option mPV → mPW → Prop} (hf : m_fetch mi pc = some (pc, (.iload_n i), x, y, z)) (he : m_exec mi (.iload_n i) x y z pc L S w bc bs = some ps') (K : m_Sem X mi ps' Q) : m_Sem X mi (pc, L, S, w, bc, bs) Q := by
  intro p l e s m args below meth c N0 aI D Qf hC hF H locs ls k n hl hlen hP hS hk hb1 hb2
  have hok := (m_fetch_ok hf).2
  obtain ⟨hx, hb, hml, hown, hts, hin, hK, h0, hX⟩ := id hC
  unfold m_okb at hok
  simp only [Bool.and_eq_true] at hok
  obtain ⟨hok1, hok2⟩ := hok
  dsimp only at hok1 hok2 hl hlen hP hS hk hb1 hb2
  have hdec := of_decide_eq_true hok1
  dsimp only [m_len] at hdec
  simp only [m_exec, m_ldI] at he
  split at he
  next hv =>
    cases he
    refine lv_iload_n hx hb hdec rfl (m_has_get hl hv) ?_
    exact K p l e s m args below meth c N0 aI D Qf hC hF H locs ls k n hl hlen hP hS hk hb1 hb2
  next => cases he
set_option maxHeartbeats 4000000 in
set_option maxRecDepth 100000 in
theorem m_x_lload_n {X : Nat × Nat × (Nat → Int32)} {mi pc x y : Nat} {i : Fin 4} {z : Int} {L : List (Option mPV)} {S : List mPV} {w : mPW} {bc bs : Nat} {ps' : mPS} {Q : Option mPV → mPW → Prop} (hf : m_fetch mi pc = some (pc, (.lload_n i), x, y, z)) (he : m_exec mi (.lload_n i) x y z pc L S w bc bs = some ps') (K : m_Sem X mi ps' Q) : m_Sem X mi (pc, L, S, w, bc, bs) Q := by
  intro p l e s m args below meth c N0 aI D Qf hC hF H locs ls k n hl hlen hP hS hk hb1 hb2
  have hok := (m_fetch_ok hf).2
  obtain ⟨hx, hb, hml, hown, hts, hin, hK, h0, hX⟩ := id hC
  unfold m_okb at hok
  simp only [Bool.and_eq_true] at hok
  obtain ⟨hok1, hok2⟩ := hok
  dsimp only at hok1 hok2 hl hlen hP hS hk hb1 hb2
  have hdec := of_decide_eq_true hok1
  dsimp only [m_len] at hdec
  simp only [m_exec, m_ldL] at he
  split at he
  next hv =>
    cases he
    refine lv_lload_n hx hb hdec rfl (m_has_get hl hv) ?_
    exact K p l e s m args below meth c N0 aI D Qf hC hF H locs ls k n hl hlen hP hS hk hb1 hb2
  next => cases he
set_option maxHeartbeats 4000000 in
set_option maxRecDepth 100000 in
theorem m_x_fload_n {X : Nat × Nat × (Nat → Int32)} {mi pc x y : Nat} {i : Fin 4} {z : Int} {L : List (Option mPV)} {S : List mPV} {w : mPW} {bc bs : Nat} {ps' : mPS} {Q : Option mPV → mPW → Prop} (hf : m_fetch mi pc = some (pc, (.fload_n i), x, y, z)) (he : m_exec mi (.fload_n i) x y z pc L S w bc bs = some ps') (K : m_Sem X mi ps' Q) : m_Sem X mi (pc, L, S, w, bc, bs) Q := by
  intro p l e s m args below meth c N0 aI D Qf hC hF H locs ls k n hl hlen hP hS hk hb1 hb2
  have hok := (m_fetch_ok hf).2
  obtain ⟨hx, hb, hml, hown, hts, hin, hK, h0, hX⟩ := id hC
  unfold m_okb at hok
  simp only [Bool.and_eq_true] at hok
  obtain ⟨hok1, hok2⟩ := hok
  dsimp only at hok1 hok2 hl hlen hP hS hk hb1 hb2
  have hdec := of_decide_eq_true hok1
  dsimp only [m_len] at hdec
  simp only [m_exec, m_ldF] at he
  split at he
  next hv =>
    cases he
    refine lv_fload_n hx hb hdec rfl (m_has_get hl hv) ?_
    exact K p l e s m args below meth c N0 aI D Qf hC hF H locs ls k n hl hlen hP hS hk hb1 hb2
  next => cases he
set_option maxHeartbeats 4000000 in
set_option maxRecDepth 100000 in
theorem m_x_aload {X : Nat × Nat × (Nat → Int32)} {mi pc x y : Nat} {i : Nat} {z : Int} {L : List (Option mPV)} {S : List mPV} {w : mPW} {bc bs : Nat} {ps' : mPS} {Q : Option mPV → mPW → Prop} (hf : m_fetch mi pc = some (pc, (.aload i), x, y, z)) (he : m_exec mi (.aload i) x y z pc L S w bc bs = some ps') (K : m_Sem X mi ps' Q) : m_Sem X mi (pc, L, S, w, bc, bs) Q := by
  intro p l e s m args below meth c N0 aI D Qf hC hF H locs ls k n hl hlen hP hS hk hb1 hb2
  have hok := (m_fetch_ok hf).2
  obtain ⟨hx, hb, hml, hown, hts, hin, hK, h0, hX⟩ := id hC
  unfold m_okb at hok
  simp only [Bool.and_eq_true] at hok
  obtain ⟨hok1, hok2⟩ := hok
  dsimp only at hok1 hok2 hl hlen hP hS hk hb1 hb2
  have hdec := of_decide_eq_true hok1
  dsimp only [m_len] at hdec
  simp only [m_exec, m_ldA] at he
  split at he
  next hv =>
    cases he
    refine lv_aload hx hb hdec  (m_has_get hl hv) ?_
    exact K p l e s m args below meth c N0 aI D Qf hC hF H locs ls k n hl hlen hP hS hk hb1 hb2
  next hv =>
    cases he
    refine lv_aload hx hb hdec  (m_has_get hl hv) ?_
    exact K p l e s m args below meth c N0 aI D Qf hC hF H locs ls k n hl hlen hP hS hk hb1 hb2
  next => cases he
set_option maxHeartbeats 4000000 in
set_option maxRecDepth 100000 in
theorem m_x_aload_n {X : Nat × Nat × (Nat → Int32)} {mi pc x y : Nat} {i : Fin 4} {z : Int} {L : List (Option mPV)} {S : List mPV} {w : mPW} {bc bs : Nat} {ps' : mPS} {Q : Option mPV → mPW → Prop} (hf : m_fetch mi pc = some (pc, (.aload_n i), x, y, z)) (he : m_exec mi (.aload_n i) x y z pc L S w bc bs = some ps') (K : m_Sem X mi ps' Q) : m_Sem X mi (pc, L, S, w, bc, bs) Q := by
  intro p l e s m args below meth c N0 aI D Qf hC hF H locs ls k n hl hlen hP hS hk hb1 hb2
  have hok := (m_fetch_ok hf).2
  obtain ⟨hx, hb, hml, hown, hts, hin, hK, h0, hX⟩ := id hC
  unfold m_okb at hok
  simp only [Bool.and_eq_true] at hok
  obtain ⟨hok1, hok2⟩ := hok
  dsimp only at hok1 hok2 hl hlen hP hS hk hb1 hb2
  have hdec := of_decide_eq_true hok1
  dsimp only [m_len] at hdec
  simp only [m_exec, m_ldA] at he
  split at he
  next hv =>
    cases he
    refine lv_aload_n hx hb hdec rfl (m_has_get hl hv) ?_
    exact K p l e s m args below meth c N0 aI D Qf hC hF H locs ls k n hl hlen hP hS hk hb1 hb2
  next hv =>
    cases he
    refine lv_aload_n hx hb hdec rfl (m_has_get hl hv) ?_
    exact K p l e s m args below meth c N0 aI D Qf hC hF H locs ls k n hl hlen hP hS hk hb1 hb2
  next => cases he
set_option maxHeartbeats 4000000 in
set_option maxRecDepth 100000 in
theorem m_x_istore {X : Nat × Nat × (Nat → Int32)} {mi pc x y : Nat} {i : Nat} {z : Int} {L : List (Option mPV)} {S : List mPV} {w : mPW} {bc bs : Nat} {ps' : mPS} {Q : Option mPV → mPW → Prop} (hf : m_fetch mi pc = some (pc, (.istore i), x, y, z)) (he : m_exec mi (.istore i) x y z pc L S w bc bs = some ps') (K : m_Sem X mi ps' Q) : m_Sem X mi (pc, L, S, w, bc, bs) Q := by
  intro p l e s m args below meth c N0 aI D Qf hC hF H locs ls k n hl hlen hP hS hk hb1 hb2
  have hok := (m_fetch_ok hf).2
  obtain ⟨hx, hb, hml, hown, hts, hin, hK, h0, hX⟩ := id hC
  unfold m_okb at hok
  simp only [Bool.and_eq_true] at hok
  obtain ⟨hok1, hok2⟩ := hok
  dsimp only at hok1 hok2 hl hlen hP hS hk hb1 hb2
  have hdec := of_decide_eq_true hok1
  dsimp only [m_len] at hdec
  simp only [m_exec] at he
  unfold m_stI at he
  split at he
  next =>
    cases hi : Nat.blt (i) L.length with
    | false => rw [hi] at he; cases he
    | true =>
      rw [hi] at he
      cases he
      have hi := Nat.le_of_ble_eq_true hi
      refine lv_istore hx hb hdec  hl (by rw [← hlen]; exact hi) rfl (fun ls2 hl2 => ?_)
      exact K p l e s m args below meth c N0 aI D Qf hC hF H locs ls2 k n (m_has_st rfl hl2) (by rw [m_st_len]; exact hlen) hP hS hk hb1 hb2
  next => cases he
set_option maxHeartbeats 4000000 in
set_option maxRecDepth 100000 in
theorem m_x_istore_n {X : Nat × Nat × (Nat → Int32)} {mi pc x y : Nat} {i : Fin 4} {z : Int} {L : List (Option mPV)} {S : List mPV} {w : mPW} {bc bs : Nat} {ps' : mPS} {Q : Option mPV → mPW → Prop} (hf : m_fetch mi pc = some (pc, (.istore_n i), x, y, z)) (he : m_exec mi (.istore_n i) x y z pc L S w bc bs = some ps') (K : m_Sem X mi ps' Q) : m_Sem X mi (pc, L, S, w, bc, bs) Q := by
  intro p l e s m args below meth c N0 aI D Qf hC hF H locs ls k n hl hlen hP hS hk hb1 hb2
  have hok := (m_fetch_ok hf).2
  obtain ⟨hx, hb, hml, hown, hts, hin, hK, h0, hX⟩ := id hC
  unfold m_okb at hok
  simp only [Bool.and_eq_true] at hok
  obtain ⟨hok1, hok2⟩ := hok
  dsimp only at hok1 hok2 hl hlen hP hS hk hb1 hb2
  have hdec := of_decide_eq_true hok1
  dsimp only [m_len] at hdec
  simp only [m_exec] at he
  unfold m_stI at he
  split at he
  next =>
    cases hi : Nat.blt ((i : Nat)) L.length with
    | false => rw [hi] at he; cases he
    | true =>
      rw [hi] at he
      cases he
      have hi := Nat.le_of_ble_eq_true hi
      refine lv_istore_n hx hb hdec rfl hl (by rw [← hlen]; exact hi) rfl (fun ls2 hl2 => ?_)
      exact K p l e s m args below meth c N0 aI D Qf hC hF H locs ls2 k n (m_has_st rfl hl2) (by rw [m_st_len]; exact hlen) hP hS hk hb1 hb2
  next => cases he
set_option maxHeartbeats 4000000 in
set_option maxRecDepth 100000 in
theorem m_x_astore_n {X : Nat × Nat × (Nat → Int32)} {mi pc x y : Nat} {i : Fin 4} {z : Int} {L : List (Option mPV)} {S : List mPV} {w : mPW} {bc bs : Nat} {ps' : mPS} {Q : Option mPV → mPW → Prop} (hf : m_fetch mi pc = some (pc, (.astore_n i), x, y, z)) (he : m_exec mi (.astore_n i) x y z pc L S w bc bs = some ps') (K : m_Sem X mi ps' Q) : m_Sem X mi (pc, L, S, w, bc, bs) Q := by
  intro p l e s m args below meth c N0 aI D Qf hC hF H locs ls k n hl hlen hP hS hk hb1 hb2
  have hok := (m_fetch_ok hf).2
  obtain ⟨hx, hb, hml, hown, hts, hin, hK, h0, hX⟩ := id hC
  unfold m_okb at hok
  simp only [Bool.and_eq_true] at hok
  obtain ⟨hok1, hok2⟩ := hok
  dsimp only at hok1 hok2 hl hlen hP hS hk hb1 hb2
  have hdec := of_decide_eq_true hok1
  dsimp only [m_len] at hdec
  simp only [m_exec] at he
  unfold m_stA at he
  split at he
  next =>
    cases hi : Nat.blt ((i : Nat)) L.length with
    | false => rw [hi] at he; cases he
    | true =>
      rw [hi] at he
      cases he
      have hi := Nat.le_of_ble_eq_true hi
      refine lv_astore_n hx hb hdec rfl hl (by rw [← hlen]; exact hi) rfl (fun ls2 hl2 => ?_)
      exact K p l e s m args below meth c N0 aI D Qf hC hF H locs ls2 k n (m_has_st rfl hl2) (by rw [m_st_len]; exact hlen) hP hS hk hb1 hb2
  next => cases he
set_option maxHeartbeats 4000000 in
set_option maxRecDepth 100000 in
theorem m_x_fstore_n {X : Nat × Nat × (Nat → Int32)} {mi pc x y : Nat} {i : Fin 4} {z : Int} {L : List (Option mPV)} {S : List mPV} {w : mPW} {bc bs : Nat} {ps' : mPS} {Q : Option mPV → mPW → Prop} (hf : m_fetch mi pc = some (pc, (.fstore_n i), x, y, z)) (he : m_exec mi (.fstore_n i) x y z pc L S w bc bs = some ps') (K : m_Sem X mi ps' Q) : m_Sem X mi (pc, L, S, w, bc, bs) Q := by
  intro p l e s m args below meth c N0 aI D Qf hC hF H locs ls k n hl hlen hP hS hk hb1 hb2
  have hok := (m_fetch_ok hf).2
  obtain ⟨hx, hb, hml, hown, hts, hin, hK, h0, hX⟩ := id hC
  unfold m_okb at hok
  simp only [Bool.and_eq_true] at hok
  obtain ⟨hok1, hok2⟩ := hok
  dsimp only at hok1 hok2 hl hlen hP hS hk hb1 hb2
  have hdec := of_decide_eq_true hok1
  dsimp only [m_len] at hdec
  simp only [m_exec] at he
  unfold m_stF at he
  split at he
  next =>
    cases hi : Nat.blt ((i : Nat)) L.length with
    | false => rw [hi] at he; cases he
    | true =>
      rw [hi] at he
      cases he
      have hi := Nat.le_of_ble_eq_true hi
      refine lv_fstore_n hx hb hdec rfl hl (by rw [← hlen]; exact hi) rfl (fun ls2 hl2 => ?_)
      exact K p l e s m args below meth c N0 aI D Qf hC hF H locs ls2 k n (m_has_st rfl hl2) (by rw [m_st_len]; exact hlen) hP hS hk hb1 hb2
  next => cases he
set_option maxHeartbeats 4000000 in
set_option maxRecDepth 100000 in
theorem m_x_lstore {X : Nat × Nat × (Nat → Int32)} {mi pc x y : Nat} {i : Nat} {z : Int} {L : List (Option mPV)} {S : List mPV} {w : mPW} {bc bs : Nat} {ps' : mPS} {Q : Option mPV → mPW → Prop} (hf : m_fetch mi pc = some (pc, (.lstore i), x, y, z)) (he : m_exec mi (.lstore i) x y z pc L S w bc bs = some ps') (K : m_Sem X mi ps' Q) : m_Sem X mi (pc, L, S, w, bc, bs) Q := by
  intro p l e s m args below meth c N0 aI D Qf hC hF H locs ls k n hl hlen hP hS hk hb1 hb2
  have hok := (m_fetch_ok hf).2
  obtain ⟨hx, hb, hml, hown, hts, hin, hK, h0, hX⟩ := id hC
  unfold m_okb at hok
  simp only [Bool.and_eq_true] at hok
  obtain ⟨hok1, hok2⟩ := hok
  dsimp only at hok1 hok2 hl hlen hP hS hk hb1 hb2
  have hdec := of_decide_eq_true hok1
  dsimp only [m_len] at hdec
  simp only [m_exec] at he
  unfold m_stL at he
  split at he
  next =>
    cases hi : Nat.blt (i + 1) L.length with
    | false => rw [hi] at he; cases he
    | true =>
      rw [hi] at he
      cases he
      have hi := Nat.le_of_ble_eq_true hi
      refine lv_lstore hx hb hdec  hl (by rw [← hlen]; exact hi) rfl (fun ls2 hl2 => ?_)
      exact K p l e s m args below meth c N0 aI D Qf hC hF H locs ls2 k n (m_has_st2 rfl hi hl2) (by rw [m_st2_len]; exact hlen) hP hS hk hb1 hb2
  next => cases he
set_option maxHeartbeats 4000000 in
set_option maxRecDepth 100000 in
theorem m_x_lstore_n {X : Nat × Nat × (Nat → Int32)} {mi pc x y : Nat} {i : Fin 4} {z : Int} {L : List (Option mPV)} {S : List mPV} {w : mPW} {bc bs : Nat} {ps' : mPS} {Q : Option mPV → mPW → Prop} (hf : m_fetch mi pc = some (pc, (.lstore_n i), x, y, z)) (he : m_exec mi (.lstore_n i) x y z pc L S w bc bs = some ps') (K : m_Sem X mi ps' Q) : m_Sem X mi (pc, L, S, w, bc, bs) Q := by
  intro p l e s m args below meth c N0 aI D Qf hC hF H locs ls k n hl hlen hP hS hk hb1 hb2
  have hok := (m_fetch_ok hf).2
  obtain ⟨hx, hb, hml, hown, hts, hin, hK, h0, hX⟩ := id hC
  unfold m_okb at hok
  simp only [Bool.and_eq_true] at hok
  obtain ⟨hok1, hok2⟩ := hok
  dsimp only at hok1 hok2 hl hlen hP hS hk hb1 hb2
  have hdec := of_decide_eq_true hok1
  dsimp only [m_len] at hdec
  simp only [m_exec] at he
  unfold m_stL at he
  split at he
  next =>
    cases hi : Nat.blt ((i : Nat) + 1) L.length with
    | false => rw [hi] at he; cases he
    | true =>
      rw [hi] at he
      cases he
      have hi := Nat.le_of_ble_eq_true hi
      refine lv_lstore_n hx hb hdec rfl hl (by rw [← hlen]; exact hi) rfl (fun ls2 hl2 => ?_)
      exact K p l e s m args below meth c N0 aI D Qf hC hF H locs ls2 k n (m_has_st2 rfl hi hl2) (by rw [m_st2_len]; exact hlen) hP hS hk hb1 hb2
  next => cases he
set_option maxHeartbeats 4000000 in
set_option maxRecDepth 100000 in
theorem m_x_iconst {X : Nat × Nat × (Nat → Int32)} {mi pc x y : Nat} {v : Int} {z : Int} {L : List (Option mPV)} {S : List mPV} {w : mPW} {bc bs : Nat} {ps' : mPS} {Q : Option mPV → mPW → Prop} (hf : m_fetch mi pc = some (pc, (.iconst v), x, y, z)) (he : m_exec mi (.iconst v) x y z pc L S w bc bs = some ps') (K : m_Sem X mi ps' Q) : m_Sem X mi (pc, L, S, w, bc, bs) Q := by
  intro p l e s m args below meth c N0 aI D Qf hC hF H locs ls k n hl hlen hP hS hk hb1 hb2
  have hok := (m_fetch_ok hf).2
  obtain ⟨hx, hb, hml, hown, hts, hin, hK, h0, hX⟩ := id hC
  unfold m_okb at hok
  simp only [Bool.and_eq_true] at hok
  obtain ⟨hok1, hok2⟩ := hok
  dsimp only at hok1 hok2 hl hlen hP hS hk hb1 hb2
  have hdec := of_decide_eq_true hok1
  dsimp only [m_len] at hdec
  cases he
  refine lv_iconst hx hb hdec rfl ?_
  exact K p l e s m args below meth c N0 aI D Qf hC hF H locs ls k n hl hlen hP hS hk hb1 hb2
set_option maxHeartbeats 4000000 in
set_option maxRecDepth 100000 in
theorem m_x_bipush {X : Nat × Nat × (Nat → Int32)} {mi pc x y : Nat} {v : Int} {z : Int} {L : List (Option mPV)} {S : List mPV} {w : mPW} {bc bs : Nat} {ps' : mPS} {Q : Option mPV → mPW → Prop} (hf : m_fetch mi pc = some (pc, (.bipush v), x, y, z)) (he : m_exec mi (.bipush v) x y z pc L S w bc bs = some ps') (K : m_Sem X mi ps' Q) : m_Sem X mi (pc, L, S, w, bc, bs) Q := by
  intro p l e s m args below meth c N0 aI D Qf hC hF H locs ls k n hl hlen hP hS hk hb1 hb2
  have hok := (m_fetch_ok hf).2
  obtain ⟨hx, hb, hml, hown, hts, hin, hK, h0, hX⟩ := id hC
  unfold m_okb at hok
  simp only [Bool.and_eq_true] at hok
  obtain ⟨hok1, hok2⟩ := hok
  dsimp only at hok1 hok2 hl hlen hP hS hk hb1 hb2
  have hdec := of_decide_eq_true hok1
  dsimp only [m_len] at hdec
  cases he
  refine lv_bipush hx hb hdec (of_decide_eq_true hok2) ?_
  exact K p l e s m args below meth c N0 aI D Qf hC hF H locs ls k n hl hlen hP hS hk hb1 hb2
set_option maxHeartbeats 4000000 in
set_option maxRecDepth 100000 in
theorem m_x_sipush {X : Nat × Nat × (Nat → Int32)} {mi pc x y : Nat} {v : Int} {z : Int} {L : List (Option mPV)} {S : List mPV} {w : mPW} {bc bs : Nat} {ps' : mPS} {Q : Option mPV → mPW → Prop} (hf : m_fetch mi pc = some (pc, (.sipush v), x, y, z)) (he : m_exec mi (.sipush v) x y z pc L S w bc bs = some ps') (K : m_Sem X mi ps' Q) : m_Sem X mi (pc, L, S, w, bc, bs) Q := by
  intro p l e s m args below meth c N0 aI D Qf hC hF H locs ls k n hl hlen hP hS hk hb1 hb2
  have hok := (m_fetch_ok hf).2
  obtain ⟨hx, hb, hml, hown, hts, hin, hK, h0, hX⟩ := id hC
  unfold m_okb at hok
  simp only [Bool.and_eq_true] at hok
  obtain ⟨hok1, hok2⟩ := hok
  dsimp only at hok1 hok2 hl hlen hP hS hk hb1 hb2
  have hdec := of_decide_eq_true hok1
  dsimp only [m_len] at hdec
  cases he
  refine lv_sipush hx hb hdec (of_decide_eq_true hok2) ?_
  exact K p l e s m args below meth c N0 aI D Qf hC hF H locs ls k n hl hlen hP hS hk hb1 hb2
set_option maxHeartbeats 4000000 in
set_option maxRecDepth 100000 in
theorem m_x_ldc {X : Nat × Nat × (Nat → Int32)} {mi pc x y : Nat} {i : Nat} {z : Int} {L : List (Option mPV)} {S : List mPV} {w : mPW} {bc bs : Nat} {ps' : mPS} {Q : Option mPV → mPW → Prop} (hf : m_fetch mi pc = some (pc, (.ldc i), x, y, z)) (he : m_exec mi (.ldc i) x y z pc L S w bc bs = some ps') (K : m_Sem X mi ps' Q) : m_Sem X mi (pc, L, S, w, bc, bs) Q := by
  intro p l e s m args below meth c N0 aI D Qf hC hF H locs ls k n hl hlen hP hS hk hb1 hb2
  have hok := (m_fetch_ok hf).2
  obtain ⟨hx, hb, hml, hown, hts, hin, hK, h0, hX⟩ := id hC
  unfold m_okb at hok
  simp only [Bool.and_eq_true] at hok
  obtain ⟨hok1, hok2⟩ := hok
  dsimp only at hok1 hok2 hl hlen hP hS hk hb1 hb2
  have hdec := of_decide_eq_true hok1
  dsimp only [m_len] at hdec
  have hw := m_csts_w _ (of_decide_eq_true hok2)
  simp only [m_exec] at he
  cases hy : Nat.beq y 0 with
  | true =>
    rw [hy] at he
    cases he
    refine lv_ldc hx hb hown (hts _ (hw.1 (Nat.eq_of_beq_eq_true hy))) hdec ?_
    exact K p l e s m args below meth c N0 aI D Qf hC hF H locs ls k n hl hlen hP hS hk hb1 hb2
  | false =>
    rw [hy] at he
    cases he
    refine lv_ldcf hx hb hown (hts _ (hw.2 (Nat.ne_of_beq_eq_false hy))) hdec ?_
    exact K p l e s m args below meth c N0 aI D Qf hC hF H locs ls k n hl hlen hP hS hk hb1 hb2
set_option maxHeartbeats 4000000 in
set_option maxRecDepth 100000 in
theorem m_x_ldc_w {X : Nat × Nat × (Nat → Int32)} {mi pc x y : Nat} {i : Nat} {z : Int} {L : List (Option mPV)} {S : List mPV} {w : mPW} {bc bs : Nat} {ps' : mPS} {Q : Option mPV → mPW → Prop} (hf : m_fetch mi pc = some (pc, (.ldc_w i), x, y, z)) (he : m_exec mi (.ldc_w i) x y z pc L S w bc bs = some ps') (K : m_Sem X mi ps' Q) : m_Sem X mi (pc, L, S, w, bc, bs) Q := by
  intro p l e s m args below meth c N0 aI D Qf hC hF H locs ls k n hl hlen hP hS hk hb1 hb2
  have hok := (m_fetch_ok hf).2
  obtain ⟨hx, hb, hml, hown, hts, hin, hK, h0, hX⟩ := id hC
  unfold m_okb at hok
  simp only [Bool.and_eq_true] at hok
  obtain ⟨hok1, hok2⟩ := hok
  dsimp only at hok1 hok2 hl hlen hP hS hk hb1 hb2
  have hdec := of_decide_eq_true hok1
  dsimp only [m_len] at hdec
  have hw := m_csts_w _ (of_decide_eq_true hok2)
  simp only [m_exec] at he
  cases hy : Nat.beq y 0 with
  | true =>
    rw [hy] at he
    cases he
    refine lv_ldcw hx hb hown (hts _ (hw.1 (Nat.eq_of_beq_eq_true hy))) hdec ?_
    exact K p l e s m args below meth c N0 aI D Qf hC hF H locs ls k n hl hlen hP hS hk hb1 hb2
  | false =>
    rw [hy] at he
    cases he
set_option maxHeartbeats 4000000 in
set_option maxRecDepth 100000 in
theorem m_x_lconst {X : Nat × Nat × (Nat → Int32)} {mi pc x y : Nat} {v : Fin 2} {z : Int} {L : List (Option mPV)} {S : List mPV} {w : mPW} {bc bs : Nat} {ps' : mPS} {Q : Option mPV → mPW → Prop} (hf : m_fetch mi pc = some (pc, (.lconst v), x, y, z)) (he : m_exec mi (.lconst v) x y z pc L S w bc bs = some ps') (K : m_Sem X mi ps' Q) : m_Sem X mi (pc, L, S, w, bc, bs) Q := by
  intro p l e s m args below meth c N0 aI D Qf hC hF H locs ls k n hl hlen hP hS hk hb1 hb2
  have hok := (m_fetch_ok hf).2
  obtain ⟨hx, hb, hml, hown, hts, hin, hK, h0, hX⟩ := id hC
  unfold m_okb at hok
  simp only [Bool.and_eq_true] at hok
  obtain ⟨hok1, hok2⟩ := hok
  dsimp only at hok1 hok2 hl hlen hP hS hk hb1 hb2
  have hdec := of_decide_eq_true hok1
  dsimp only [m_len] at hdec
  cases he
  refine lv_lconst hx hb hdec rfl ?_
  exact K p l e s m args below meth c N0 aI D Qf hC hF H locs ls k n hl hlen hP hS hk hb1 hb2
set_option maxHeartbeats 4000000 in
set_option maxRecDepth 100000 in
theorem m_x_fconst {X : Nat × Nat × (Nat → Int32)} {mi pc x y : Nat} {v : Fin 3} {z : Int} {L : List (Option mPV)} {S : List mPV} {w : mPW} {bc bs : Nat} {ps' : mPS} {Q : Option mPV → mPW → Prop} (hf : m_fetch mi pc = some (pc, (.fconst v), x, y, z)) (he : m_exec mi (.fconst v) x y z pc L S w bc bs = some ps') (K : m_Sem X mi ps' Q) : m_Sem X mi (pc, L, S, w, bc, bs) Q := by
  intro p l e s m args below meth c N0 aI D Qf hC hF H locs ls k n hl hlen hP hS hk hb1 hb2
  have hok := (m_fetch_ok hf).2
  obtain ⟨hx, hb, hml, hown, hts, hin, hK, h0, hX⟩ := id hC
  unfold m_okb at hok
  simp only [Bool.and_eq_true] at hok
  obtain ⟨hok1, hok2⟩ := hok
  dsimp only at hok1 hok2 hl hlen hP hS hk hb1 hb2
  have hdec := of_decide_eq_true hok1
  dsimp only [m_len] at hdec
  simp only [m_exec] at he
  split at he
  · cases he
    refine lv_fconst0 hx hb hdec ?_
    exact K p l e s m args below meth c N0 aI D Qf hC hF H locs ls k n hl hlen hP hS hk hb1 hb2
  · cases he
    refine lv_fconst1 hx hb hdec ?_
    exact K p l e s m args below meth c N0 aI D Qf hC hF H locs ls k n hl hlen hP hS hk hb1 hb2
  · cases he
    refine lv_fconst2 hx hb hdec ?_
    exact K p l e s m args below meth c N0 aI D Qf hC hF H locs ls k n hl hlen hP hS hk hb1 hb2
set_option maxHeartbeats 4000000 in
set_option maxRecDepth 100000 in
theorem m_x_iadd {X : Nat × Nat × (Nat → Int32)} {mi pc x y : Nat}  {z : Int} {L : List (Option mPV)} {S : List mPV} {w : mPW} {bc bs : Nat} {ps' : mPS} {Q : Option mPV → mPW → Prop} (hf : m_fetch mi pc = some (pc, .iadd, x, y, z)) (he : m_exec mi .iadd x y z pc L S w bc bs = some ps') (K : m_Sem X mi ps' Q) : m_Sem X mi (pc, L, S, w, bc, bs) Q := by
  intro p l e s m args below meth c N0 aI D Qf hC hF H locs ls k n hl hlen hP hS hk hb1 hb2
  have hok := (m_fetch_ok hf).2
  obtain ⟨hx, hb, hml, hown, hts, hin, hK, h0, hX⟩ := id hC
  unfold m_okb at hok
  simp only [Bool.and_eq_true] at hok
  obtain ⟨hok1, hok2⟩ := hok
  dsimp only at hok1 hok2 hl hlen hP hS hk hb1 hb2
  have hdec := of_decide_eq_true hok1
  dsimp only [m_len] at hdec
  simp only [m_exec] at he
  unfold m_bin at he
  split at he
  next b a S' =>
    cases he
    refine lv_iadd hx hb hdec ?_
    have hv : (Int32.ofInt a + Int32.ofInt b) = Int32.ofInt (a + b) := (m_of_add a b).symm
    rw [hv]
    exact K p l e s m args below meth c N0 aI D Qf hC hF H locs ls k n hl hlen hP hS hk hb1 hb2
  next => cases he
set_option maxHeartbeats 4000000 in
set_option maxRecDepth 100000 in
theorem m_x_isub {X : Nat × Nat × (Nat → Int32)} {mi pc x y : Nat}  {z : Int} {L : List (Option mPV)} {S : List mPV} {w : mPW} {bc bs : Nat} {ps' : mPS} {Q : Option mPV → mPW → Prop} (hf : m_fetch mi pc = some (pc, .isub, x, y, z)) (he : m_exec mi .isub x y z pc L S w bc bs = some ps') (K : m_Sem X mi ps' Q) : m_Sem X mi (pc, L, S, w, bc, bs) Q := by
  intro p l e s m args below meth c N0 aI D Qf hC hF H locs ls k n hl hlen hP hS hk hb1 hb2
  have hok := (m_fetch_ok hf).2
  obtain ⟨hx, hb, hml, hown, hts, hin, hK, h0, hX⟩ := id hC
  unfold m_okb at hok
  simp only [Bool.and_eq_true] at hok
  obtain ⟨hok1, hok2⟩ := hok
  dsimp only at hok1 hok2 hl hlen hP hS hk hb1 hb2
  have hdec := of_decide_eq_true hok1
  dsimp only [m_len] at hdec
  simp only [m_exec] at he
  unfold m_bin at he
  split at he
  next b a S' =>
    cases he
    refine lv_isub hx hb hdec ?_
    have hv : (Int32.ofInt a - Int32.ofInt b) = Int32.ofInt (a - b) := (m_of_sub a b).symm
    rw [hv]
    exact K p l e s m args below meth c N0 aI D Qf hC hF H locs ls k n hl hlen hP hS hk hb1 hb2
  next => cases he
set_option maxHeartbeats 4000000 in
set_option maxRecDepth 100000 in
theorem m_x_imul {X : Nat × Nat × (Nat → Int32)} {mi pc x y : Nat}  {z : Int} {L : List (Option mPV)} {S : List mPV} {w : mPW} {bc bs : Nat} {ps' : mPS} {Q : Option mPV → mPW → Prop} (hf : m_fetch mi pc = some (pc, .imul, x, y, z)) (he : m_exec mi .imul x y z pc L S w bc bs = some ps') (K : m_Sem X mi ps' Q) : m_Sem X mi (pc, L, S, w, bc, bs) Q := by
  intro p l e s m args below meth c N0 aI D Qf hC hF H locs ls k n hl hlen hP hS hk hb1 hb2
  have hok := (m_fetch_ok hf).2
  obtain ⟨hx, hb, hml, hown, hts, hin, hK, h0, hX⟩ := id hC
  unfold m_okb at hok
  simp only [Bool.and_eq_true] at hok
  obtain ⟨hok1, hok2⟩ := hok
  dsimp only at hok1 hok2 hl hlen hP hS hk hb1 hb2
  have hdec := of_decide_eq_true hok1
  dsimp only [m_len] at hdec
  simp only [m_exec] at he
  unfold m_bin at he
  split at he
  next b a S' =>
    cases he
    refine lv_imul hx hb hdec ?_
    have hv : (Int32.ofInt a * Int32.ofInt b) = Int32.ofInt (a * b) := (m_of_mul a b).symm
    rw [hv]
    exact K p l e s m args below meth c N0 aI D Qf hC hF H locs ls k n hl hlen hP hS hk hb1 hb2
  next => cases he
set_option maxHeartbeats 4000000 in
set_option maxRecDepth 100000 in
theorem m_x_iand {X : Nat × Nat × (Nat → Int32)} {mi pc x y : Nat}  {z : Int} {L : List (Option mPV)} {S : List mPV} {w : mPW} {bc bs : Nat} {ps' : mPS} {Q : Option mPV → mPW → Prop} (hf : m_fetch mi pc = some (pc, .iand, x, y, z)) (he : m_exec mi .iand x y z pc L S w bc bs = some ps') (K : m_Sem X mi ps' Q) : m_Sem X mi (pc, L, S, w, bc, bs) Q := by
  intro p l e s m args below meth c N0 aI D Qf hC hF H locs ls k n hl hlen hP hS hk hb1 hb2
  have hok := (m_fetch_ok hf).2
  obtain ⟨hx, hb, hml, hown, hts, hin, hK, h0, hX⟩ := id hC
  unfold m_okb at hok
  simp only [Bool.and_eq_true] at hok
  obtain ⟨hok1, hok2⟩ := hok
  dsimp only at hok1 hok2 hl hlen hP hS hk hb1 hb2
  have hdec := of_decide_eq_true hok1
  dsimp only [m_len] at hdec
  simp only [m_exec] at he
  unfold m_bin at he
  split at he
  next b a S' =>
    cases he
    refine lv_iand hx hb hdec  ?_
    have hv : (Int32.ofInt a &&& Int32.ofInt b) = Int32.ofInt ((Int32.ofInt a &&& Int32.ofInt b)).toInt := (Int32.ofInt_toInt _).symm
    rw [hv]
    exact K p l e s m args below meth c N0 aI D Qf hC hF H locs ls k n hl hlen hP hS hk hb1 hb2
  next => cases he
set_option maxHeartbeats 4000000 in
set_option maxRecDepth 100000 in
theorem m_x_ior {X : Nat × Nat × (Nat → Int32)} {mi pc x y : Nat}  {z : Int} {L : List (Option mPV)} {S : List mPV} {w : mPW} {bc bs : Nat} {ps' : mPS} {Q : Option mPV → mPW → Prop} (hf : m_fetch mi pc = some (pc, .ior, x, y, z)) (he : m_exec mi .ior x y z pc L S w bc bs = some ps') (K : m_Sem X mi ps' Q) : m_Sem X mi (pc, L, S, w, bc, bs) Q := by
  intro p l e s m args below meth c N0 aI D Qf hC hF H locs ls k n hl hlen hP hS hk hb1 hb2
  have hok := (m_fetch_ok hf).2
  obtain ⟨hx, hb, hml, hown, hts, hin, hK, h0, hX⟩ := id hC
  unfold m_okb at hok
  simp only [Bool.and_eq_true] at hok
  obtain ⟨hok1, hok2⟩ := hok
  dsimp only at hok1 hok2 hl hlen hP hS hk hb1 hb2
  have hdec := of_decide_eq_true hok1
  dsimp only [m_len] at hdec
  simp only [m_exec] at he
  unfold m_bin at he
  split at he
  next b a S' =>
    cases he
    refine lv_ior hx hb hdec  ?_
    have hv : (Int32.ofInt a ||| Int32.ofInt b) = Int32.ofInt ((Int32.ofInt a ||| Int32.ofInt b)).toInt := (Int32.ofInt_toInt _).symm
    rw [hv]
    exact K p l e s m args below meth c N0 aI D Qf hC hF H locs ls k n hl hlen hP hS hk hb1 hb2
  next => cases he
set_option maxHeartbeats 4000000 in
set_option maxRecDepth 100000 in
theorem m_x_ixor {X : Nat × Nat × (Nat → Int32)} {mi pc x y : Nat}  {z : Int} {L : List (Option mPV)} {S : List mPV} {w : mPW} {bc bs : Nat} {ps' : mPS} {Q : Option mPV → mPW → Prop} (hf : m_fetch mi pc = some (pc, .ixor, x, y, z)) (he : m_exec mi .ixor x y z pc L S w bc bs = some ps') (K : m_Sem X mi ps' Q) : m_Sem X mi (pc, L, S, w, bc, bs) Q := by
  intro p l e s m args below meth c N0 aI D Qf hC hF H locs ls k n hl hlen hP hS hk hb1 hb2
  have hok := (m_fetch_ok hf).2
  obtain ⟨hx, hb, hml, hown, hts, hin, hK, h0, hX⟩ := id hC
  unfold m_okb at hok
  simp only [Bool.and_eq_true] at hok
  obtain ⟨hok1, hok2⟩ := hok
  dsimp only at hok1 hok2 hl hlen hP hS hk hb1 hb2
  have hdec := of_decide_eq_true hok1
  dsimp only [m_len] at hdec
  simp only [m_exec] at he
  unfold m_bin at he
  split at he
  next b a S' =>
    cases he
    refine lv_ixor hx hb hdec  ?_
    have hv : (Int32.ofInt a ^^^ Int32.ofInt b) = Int32.ofInt ((Int32.ofInt a ^^^ Int32.ofInt b)).toInt := (Int32.ofInt_toInt _).symm
    rw [hv]
    exact K p l e s m args below meth c N0 aI D Qf hC hF H locs ls k n hl hlen hP hS hk hb1 hb2
  next => cases he
set_option maxHeartbeats 4000000 in
set_option maxRecDepth 100000 in
theorem m_x_ishl {X : Nat × Nat × (Nat → Int32)} {mi pc x y : Nat}  {z : Int} {L : List (Option mPV)} {S : List mPV} {w : mPW} {bc bs : Nat} {ps' : mPS} {Q : Option mPV → mPW → Prop} (hf : m_fetch mi pc = some (pc, .ishl, x, y, z)) (he : m_exec mi .ishl x y z pc L S w bc bs = some ps') (K : m_Sem X mi ps' Q) : m_Sem X mi (pc, L, S, w, bc, bs) Q := by
  intro p l e s m args below meth c N0 aI D Qf hC hF H locs ls k n hl hlen hP hS hk hb1 hb2
  have hok := (m_fetch_ok hf).2
  obtain ⟨hx, hb, hml, hown, hts, hin, hK, h0, hX⟩ := id hC
  unfold m_okb at hok
  simp only [Bool.and_eq_true] at hok
  obtain ⟨hok1, hok2⟩ := hok
  dsimp only at hok1 hok2 hl hlen hP hS hk hb1 hb2
  have hdec := of_decide_eq_true hok1
  dsimp only [m_len] at hdec
  simp only [m_exec] at he
  unfold m_bin at he
  split at he
  next b a S' =>
    cases he
    refine lv_ishl hx hb hdec  ?_
    have hv : (Int32.ofInt a <<< (Int32.ofInt b &&& 31)) = Int32.ofInt ((Int32.ofInt a <<< (Int32.ofInt b &&& 31))).toInt := (Int32.ofInt_toInt _).symm
    rw [hv]
    exact K p l e s m args below meth c N0 aI D Qf hC hF H locs ls k n hl hlen hP hS hk hb1 hb2
  next => cases he
set_option maxHeartbeats 4000000 in
set_option maxRecDepth 100000 in
theorem m_x_ishr {X : Nat × Nat × (Nat → Int32)} {mi pc x y : Nat}  {z : Int} {L : List (Option mPV)} {S : List mPV} {w : mPW} {bc bs : Nat} {ps' : mPS} {Q : Option mPV → mPW → Prop} (hf : m_fetch mi pc = some (pc, .ishr, x, y, z)) (he : m_exec mi .ishr x y z pc L S w bc bs = some ps') (K : m_Sem X mi ps' Q) : m_Sem X mi (pc, L, S, w, bc, bs) Q := by
  intro p l e s m args below meth c N0 aI D Qf hC hF H locs ls k n hl hlen hP hS hk hb1 hb2
  have hok := (m_fetch_ok hf).2
  obtain ⟨hx, hb, hml, hown, hts, hin, hK, h0, hX⟩ := id hC
  unfold m_okb at hok
  simp only [Bool.and_eq_true] at hok
  obtain ⟨hok1, hok2⟩ := hok
  dsimp only at hok1 hok2 hl hlen hP hS hk hb1 hb2
  have hdec := of_decide_eq_true hok1
  dsimp only [m_len] at hdec
  simp only [m_exec] at he
  unfold m_bin at he
  split at he
  next b a S' =>
    cases he
    refine lv_ishr hx hb hdec  ?_
    have hv : (Int32.ofInt a >>> (Int32.ofInt b &&& 31)) = Int32.ofInt ((Int32.ofInt a >>> (Int32.ofInt b &&& 31))).toInt := (Int32.ofInt_toInt _).symm
    rw [hv]
    exact K p l e s m args below meth c N0 aI D Qf hC hF H locs ls k n hl hlen hP hS hk hb1 hb2
  next => cases he
set_option maxHeartbeats 4000000 in
set_option maxRecDepth 100000 in
theorem m_x_iushr {X : Nat × Nat × (Nat → Int32)} {mi pc x y : Nat}  {z : Int} {L : List (Option mPV)} {S : List mPV} {w : mPW} {bc bs : Nat} {ps' : mPS} {Q : Option mPV → mPW → Prop} (hf : m_fetch mi pc = some (pc, .iushr, x, y, z)) (he : m_exec mi .iushr x y z pc L S w bc bs = some ps') (K : m_Sem X mi ps' Q) : m_Sem X mi (pc, L, S, w, bc, bs) Q := by
  intro p l e s m args below meth c N0 aI D Qf hC hF H locs ls k n hl hlen hP hS hk hb1 hb2
  have hok := (m_fetch_ok hf).2
  obtain ⟨hx, hb, hml, hown, hts, hin, hK, h0, hX⟩ := id hC
  unfold m_okb at hok
  simp only [Bool.and_eq_true] at hok
  obtain ⟨hok1, hok2⟩ := hok
  dsimp only at hok1 hok2 hl hlen hP hS hk hb1 hb2
  have hdec := of_decide_eq_true hok1
  dsimp only [m_len] at hdec
  simp only [m_exec] at he
  unfold m_bin at he
  split at he
  next b a S' =>
    cases he
    refine lv_iushr hx hb hdec rfl ?_
    have hv : ((Int32.ofInt a).toUInt32 >>> ((Int32.ofInt b).toUInt32 &&& Int32.toUInt32 31)).toInt32 = Int32.ofInt (((Int32.ofInt a).toUInt32 >>> ((Int32.ofInt b).toUInt32 &&& Int32.toUInt32 31)).toInt32).toInt := (Int32.ofInt_toInt _).symm
    rw [hv]
    exact K p l e s m args below meth c N0 aI D Qf hC hF H locs ls k n hl hlen hP hS hk hb1 hb2
  next => cases he
set_option maxHeartbeats 4000000 in
set_option maxRecDepth 100000 in
theorem m_x_land {X : Nat × Nat × (Nat → Int32)} {mi pc x y : Nat}  {z : Int} {L : List (Option mPV)} {S : List mPV} {w : mPW} {bc bs : Nat} {ps' : mPS} {Q : Option mPV → mPW → Prop} (hf : m_fetch mi pc = some (pc, .land, x, y, z)) (he : m_exec mi .land x y z pc L S w bc bs = some ps') (K : m_Sem X mi ps' Q) : m_Sem X mi (pc, L, S, w, bc, bs) Q := by
  intro p l e s m args below meth c N0 aI D Qf hC hF H locs ls k n hl hlen hP hS hk hb1 hb2
  have hok := (m_fetch_ok hf).2
  obtain ⟨hx, hb, hml, hown, hts, hin, hK, h0, hX⟩ := id hC
  unfold m_okb at hok
  simp only [Bool.and_eq_true] at hok
  obtain ⟨hok1, hok2⟩ := hok
  dsimp only at hok1 hok2 hl hlen hP hS hk hb1 hb2
  have hdec := of_decide_eq_true hok1
  dsimp only [m_len] at hdec
  simp only [m_exec] at he
  unfold m_binL at he
  split at he
  next b a S' =>
    cases he
    refine lv_land hx hb hdec ?_
    exact K p l e s m args below meth c N0 aI D Qf hC hF H locs ls k n hl hlen hP hS hk hb1 hb2
  next => cases he
set_option maxHeartbeats 4000000 in
set_option maxRecDepth 100000 in
theorem m_x_lor {X : Nat × Nat × (Nat → Int32)} {mi pc x y : Nat}  {z : Int} {L : List (Option mPV)} {S : List mPV} {w : mPW} {bc bs : Nat} {ps' : mPS} {Q : Option mPV → mPW → Prop} (hf : m_fetch mi pc = some (pc, .lor, x, y, z)) (he : m_exec mi .lor x y z pc L S w bc bs = some ps') (K : m_Sem X mi ps' Q) : m_Sem X mi (pc, L, S, w, bc, bs) Q := by
  intro p l e s m args below meth c N0 aI D Qf hC hF H locs ls k n hl hlen hP hS hk hb1 hb2
  have hok := (m_fetch_ok hf).2
  obtain ⟨hx, hb, hml, hown, hts, hin, hK, h0, hX⟩ := id hC
  unfold m_okb at hok
  simp only [Bool.and_eq_true] at hok
  obtain ⟨hok1, hok2⟩ := hok
  dsimp only at hok1 hok2 hl hlen hP hS hk hb1 hb2
  have hdec := of_decide_eq_true hok1
  dsimp only [m_len] at hdec
  simp only [m_exec] at he
  unfold m_binL at he
  split at he
  next b a S' =>
    cases he
    refine lv_lor hx hb hdec ?_
    exact K p l e s m args below meth c N0 aI D Qf hC hF H locs ls k n hl hlen hP hS hk hb1 hb2
  next => cases he
set_option maxHeartbeats 4000000 in
set_option maxRecDepth 100000 in
theorem m_x_lsub {X : Nat × Nat × (Nat → Int32)} {mi pc x y : Nat}  {z : Int} {L : List (Option mPV)} {S : List mPV} {w : mPW} {bc bs : Nat} {ps' : mPS} {Q : Option mPV → mPW → Prop} (hf : m_fetch mi pc = some (pc, .lsub, x, y, z)) (he : m_exec mi .lsub x y z pc L S w bc bs = some ps') (K : m_Sem X mi ps' Q) : m_Sem X mi (pc, L, S, w, bc, bs) Q := by
  intro p l e s m args below meth c N0 aI D Qf hC hF H locs ls k n hl hlen hP hS hk hb1 hb2
  have hok := (m_fetch_ok hf).2
  obtain ⟨hx, hb, hml, hown, hts, hin, hK, h0, hX⟩ := id hC
  unfold m_okb at hok
  simp only [Bool.and_eq_true] at hok
  obtain ⟨hok1, hok2⟩ := hok
  dsimp only at hok1 hok2 hl hlen hP hS hk hb1 hb2
  have hdec := of_decide_eq_true hok1
  dsimp only [m_len] at hdec
  simp only [m_exec] at he
  unfold m_binL at he
  split at he
  next b a S' =>
    cases he
    refine lv_lsub hx hb hdec ?_
    exact K p l e s m args below meth c N0 aI D Qf hC hF H locs ls k n hl hlen hP hS hk hb1 hb2
  next => cases he
set_option maxHeartbeats 4000000 in
set_option maxRecDepth 100000 in
theorem m_x_lshl {X : Nat × Nat × (Nat → Int32)} {mi pc x y : Nat}  {z : Int} {L : List (Option mPV)} {S : List mPV} {w : mPW} {bc bs : Nat} {ps' : mPS} {Q : Option mPV → mPW → Prop} (hf : m_fetch mi pc = some (pc, .lshl, x, y, z)) (he : m_exec mi .lshl x y z pc L S w bc bs = some ps') (K : m_Sem X mi ps' Q) : m_Sem X mi (pc, L, S, w, bc, bs) Q := by
  intro p l e s m args below meth c N0 aI D Qf hC hF H locs ls k n hl hlen hP hS hk hb1 hb2
  have hok := (m_fetch_ok hf).2
  obtain ⟨hx, hb, hml, hown, hts, hin, hK, h0, hX⟩ := id hC
  unfold m_okb at hok
  simp only [Bool.and_eq_true] at hok
  obtain ⟨hok1, hok2⟩ := hok
  dsimp only at hok1 hok2 hl hlen hP hS hk hb1 hb2
  have hdec := of_decide_eq_true hok1
  dsimp only [m_len] at hdec
  simp only [m_exec] at he
  split at he
  next =>
    rename_i b a S'
    cases he
    refine lv_lshl hx hb hdec rfl ?_
    exact K p l e s m args below meth c N0 aI D Qf hC hF H locs ls k n hl hlen hP hS hk hb1 hb2
  next => cases he
set_option maxHeartbeats 4000000 in
set_option maxRecDepth 100000 in
theorem m_x_lshr {X : Nat × Nat × (Nat → Int32)} {mi pc x y : Nat}  {z : Int} {L : List (Option mPV)} {S : List mPV} {w : mPW} {bc bs : Nat} {ps' : mPS} {Q : Option mPV → mPW → Prop} (hf : m_fetch mi pc = some (pc, .lshr, x, y, z)) (he : m_exec mi .lshr x y z pc L S w bc bs = some ps') (K : m_Sem X mi ps' Q) : m_Sem X mi (pc, L, S, w, bc, bs) Q := by
  intro p l e s m args below meth c N0 aI D Qf hC hF H locs ls k n hl hlen hP hS hk hb1 hb2
  have hok := (m_fetch_ok hf).2
  obtain ⟨hx, hb, hml, hown, hts, hin, hK, h0, hX⟩ := id hC
  unfold m_okb at hok
  simp only [Bool.and_eq_true] at hok
  obtain ⟨hok1, hok2⟩ := hok
  dsimp only at hok1 hok2 hl hlen hP hS hk hb1 hb2
  have hdec := of_decide_eq_true hok1
  dsimp only [m_len] at hdec
  simp only [m_exec] at he
  split at he
  next =>
    rename_i b a S'
    cases he
    refine lv_lshr hx hb hdec rfl ?_
    exact K p l e s m args below meth c N0 aI D Qf hC hF H locs ls k n hl hlen hP hS hk hb1 hb2
  next => cases he
set_option maxHeartbeats 4000000 in
set_option maxRecDepth 100000 in
theorem m_x_lcmp {X : Nat × Nat × (Nat → Int32)} {mi pc x y : Nat}  {z : Int} {L : List (Option mPV)} {S : List mPV} {w : mPW} {bc bs : Nat} {ps' : mPS} {Q : Option mPV → mPW → Prop} (hf : m_fetch mi pc = some (pc, .lcmp, x, y, z)) (he : m_exec mi .lcmp x y z pc L S w bc bs = some ps') (K : m_Sem X mi ps' Q) : m_Sem X mi (pc, L, S, w, bc, bs) Q := by
  intro p l e s m args below meth c N0 aI D Qf hC hF H locs ls k n hl hlen hP hS hk hb1 hb2
  have hok := (m_fetch_ok hf).2
  obtain ⟨hx, hb, hml, hown, hts, hin, hK, h0, hX⟩ := id hC
  unfold m_okb at hok
  simp only [Bool.and_eq_true] at hok
  obtain ⟨hok1, hok2⟩ := hok
  dsimp only at hok1 hok2 hl hlen hP hS hk hb1 hb2
  have hdec := of_decide_eq_true hok1
  dsimp only [m_len] at hdec
  simp only [m_exec] at he
  split at he
  next =>
    rename_i b a S'
    cases he
    refine W.lcmp hx hb hdec  ?_
    have hv : (lg_cmp a b) = Int32.ofInt ((lg_cmp a b)).toInt := (Int32.ofInt_toInt _).symm
    rw [hv]
    exact K p l e s m args below meth c N0 aI D Qf hC hF H locs ls k n hl hlen hP hS hk hb1 hb2
  next => cases he
set_option maxHeartbeats 4000000 in
set_option maxRecDepth 100000 in
theorem m_x_l2i {X : Nat × Nat × (Nat → Int32)} {mi pc x y : Nat}  {z : Int} {L : List (Option mPV)} {S : List mPV} {w : mPW} {bc bs : Nat} {ps' : mPS} {Q : Option mPV → mPW → Prop} (hf : m_fetch mi pc = some (pc, .l2i, x, y, z)) (he : m_exec mi .l2i x y z pc L S w bc bs = some ps') (K : m_Sem X mi ps' Q) : m_Sem X mi (pc, L, S, w, bc, bs) Q := by
  intro p l e s m args below meth c N0 aI D Qf hC hF H locs ls k n hl hlen hP hS hk hb1 hb2
  have hok := (m_fetch_ok hf).2
  obtain ⟨hx, hb, hml, hown, hts, hin, hK, h0, hX⟩ := id hC
  unfold m_okb at hok
  simp only [Bool.and_eq_true] at hok
  obtain ⟨hok1, hok2⟩ := hok
  dsimp only at hok1 hok2 hl hlen hP hS hk hb1 hb2
  have hdec := of_decide_eq_true hok1
  dsimp only [m_len] at hdec
  simp only [m_exec] at he
  split at he
  next =>
    rename_i a S'
    cases he
    refine lv_l2i hx hb hdec rfl ?_
    have hv : a.toInt32 = Int32.ofInt (a.toInt32).toInt := (Int32.ofInt_toInt _).symm
    rw [hv]
    exact K p l e s m args below meth c N0 aI D Qf hC hF H locs ls k n hl hlen hP hS hk hb1 hb2
  next => cases he
set_option maxHeartbeats 4000000 in
set_option maxRecDepth 100000 in
theorem m_x_i2f {X : Nat × Nat × (Nat → Int32)} {mi pc x y : Nat}  {z : Int} {L : List (Option mPV)} {S : List mPV} {w : mPW} {bc bs : Nat} {ps' : mPS} {Q : Option mPV → mPW → Prop} (hf : m_fetch mi pc = some (pc, .i2f, x, y, z)) (he : m_exec mi .i2f x y z pc L S w bc bs = some ps') (K : m_Sem X mi ps' Q) : m_Sem X mi (pc, L, S, w, bc, bs) Q := by
  intro p l e s m args below meth c N0 aI D Qf hC hF H locs ls k n hl hlen hP hS hk hb1 hb2
  have hok := (m_fetch_ok hf).2
  obtain ⟨hx, hb, hml, hown, hts, hin, hK, h0, hX⟩ := id hC
  unfold m_okb at hok
  simp only [Bool.and_eq_true] at hok
  obtain ⟨hok1, hok2⟩ := hok
  dsimp only at hok1 hok2 hl hlen hP hS hk hb1 hb2
  have hdec := of_decide_eq_true hok1
  dsimp only [m_len] at hdec
  simp only [m_exec] at he
  split at he
  next =>
    rename_i a S'
    cases he
    refine lv_i2f hx hb hdec  ?_
    exact K p l e s m args below meth c N0 aI D Qf hC hF H locs ls k n hl hlen hP hS hk hb1 hb2
  next => cases he
set_option maxHeartbeats 4000000 in
set_option maxRecDepth 100000 in
theorem m_x_f2i {X : Nat × Nat × (Nat → Int32)} {mi pc x y : Nat}  {z : Int} {L : List (Option mPV)} {S : List mPV} {w : mPW} {bc bs : Nat} {ps' : mPS} {Q : Option mPV → mPW → Prop} (hf : m_fetch mi pc = some (pc, .f2i, x, y, z)) (he : m_exec mi .f2i x y z pc L S w bc bs = some ps') (K : m_Sem X mi ps' Q) : m_Sem X mi (pc, L, S, w, bc, bs) Q := by
  intro p l e s m args below meth c N0 aI D Qf hC hF H locs ls k n hl hlen hP hS hk hb1 hb2
  have hok := (m_fetch_ok hf).2
  obtain ⟨hx, hb, hml, hown, hts, hin, hK, h0, hX⟩ := id hC
  unfold m_okb at hok
  simp only [Bool.and_eq_true] at hok
  obtain ⟨hok1, hok2⟩ := hok
  dsimp only at hok1 hok2 hl hlen hP hS hk hb1 hb2
  have hdec := of_decide_eq_true hok1
  dsimp only [m_len] at hdec
  simp only [m_exec] at he
  split at he
  next =>
    rename_i a S'
    cases he
    refine lv_f2i hx hb hdec  ?_
    have hv : (FP.f2i a) = Int32.ofInt ((FP.f2i a)).toInt := (Int32.ofInt_toInt _).symm
    rw [hv]
    exact K p l e s m args below meth c N0 aI D Qf hC hF H locs ls k n hl hlen hP hS hk hb1 hb2
  next => cases he
set_option maxHeartbeats 4000000 in
set_option maxRecDepth 100000 in
theorem m_x_fcmp {X : Nat × Nat × (Nat → Int32)} {mi pc x y : Nat} {o : CmpOp} {z : Int} {L : List (Option mPV)} {S : List mPV} {w : mPW} {bc bs : Nat} {ps' : mPS} {Q : Option mPV → mPW → Prop} (hf : m_fetch mi pc = some (pc, (.fcmp o), x, y, z)) (he : m_exec mi (.fcmp o) x y z pc L S w bc bs = some ps') (K : m_Sem X mi ps' Q) : m_Sem X mi (pc, L, S, w, bc, bs) Q := by
  intro p l e s m args below meth c N0 aI D Qf hC hF H locs ls k n hl hlen hP hS hk hb1 hb2
  have hok := (m_fetch_ok hf).2
  obtain ⟨hx, hb, hml, hown, hts, hin, hK, h0, hX⟩ := id hC
  unfold m_okb at hok
  simp only [Bool.and_eq_true] at hok
  obtain ⟨hok1, hok2⟩ := hok
  dsimp only at hok1 hok2 hl hlen hP hS hk hb1 hb2
  have hdec := of_decide_eq_true hok1
  dsimp only [m_len] at hdec
  simp only [m_exec] at he
  split at he
  next =>
    rename_i b a S'
    cases he
    refine lv_fcmp hx hb hdec  ?_
    have hv : (Op.cmpValue (FP.fcmp a b) o) = Int32.ofInt ((Op.cmpValue (FP.fcmp a b) o)).toInt := (Int32.ofInt_toInt _).symm
    rw [hv]
    exact K p l e s m args below meth c N0 aI D Qf hC hF H locs ls k n hl hlen hP hS hk hb1 hb2
  next => cases he
set_option maxHeartbeats 4000000 in
set_option maxRecDepth 100000 in
theorem m_x_pop {X : Nat × Nat × (Nat → Int32)} {mi pc x y : Nat}  {z : Int} {L : List (Option mPV)} {S : List mPV} {w : mPW} {bc bs : Nat} {ps' : mPS} {Q : Option mPV → mPW → Prop} (hf : m_fetch mi pc = some (pc, .pop, x, y, z)) (he : m_exec mi .pop x y z pc L S w bc bs = some ps') (K : m_Sem X mi ps' Q) : m_Sem X mi (pc, L, S, w, bc, bs) Q := by
  intro p l e s m args below meth c N0 aI D Qf hC hF H locs ls k n hl hlen hP hS hk hb1 hb2
  have hok := (m_fetch_ok hf).2
  obtain ⟨hx, hb, hml, hown, hts, hin, hK, h0, hX⟩ := id hC
  unfold m_okb at hok
  simp only [Bool.and_eq_true] at hok
  obtain ⟨hok1, hok2⟩ := hok
  dsimp only at hok1 hok2 hl hlen hP hS hk hb1 hb2
  have hdec := of_decide_eq_true hok1
  dsimp only [m_len] at hdec
  simp only [m_exec] at he
  split at he
  next =>
    rename_i v S'
    cases hv : Nat.beq (m_cat v) 1 with
    | false => rw [hv] at he; cases he
    | true =>
      rw [hv] at he
      cases he
      refine lv_pop hx hb hdec (by rw [m_cat_cv]; exact Nat.eq_of_beq_eq_true hv) ?_
      exact K p l e s m args below meth c N0 aI D Qf hC hF H locs ls k n hl hlen hP hS hk hb1 hb2
  next => cases he
set_option maxHeartbeats 4000000 in
set_option maxRecDepth 100000 in
theorem m_x_dup {X : Nat × Nat × (Nat → Int32)} {mi pc x y : Nat}  {z : Int} {L : List (Option mPV)} {S : List mPV} {w : mPW} {bc bs : Nat} {ps' : mPS} {Q : Option mPV → mPW → Prop} (hf : m_fetch mi pc = some (pc, .dup, x, y, z)) (he : m_exec mi .dup x y z pc L S w bc bs = some ps') (K : m_Sem X mi ps' Q) : m_Sem X mi (pc, L, S, w, bc, bs) Q := by
  intro p l e s m args below meth c N0 aI D Qf hC hF H locs ls k n hl hlen hP hS hk hb1 hb2
  have hok := (m_fetch_ok hf).2
  obtain ⟨hx, hb, hml, hown, hts, hin, hK, h0, hX⟩ := id hC
  unfold m_okb at hok
  simp only [Bool.and_eq_true] at hok
  obtain ⟨hok1, hok2⟩ := hok
  dsimp only at hok1 hok2 hl hlen hP hS hk hb1 hb2
  have hdec := of_decide_eq_true hok1
  dsimp only [m_len] at hdec
  simp only [m_exec] at he
  split at he
  next =>
    rename_i v S'
    cases hv : Nat.beq (m_cat v) 1 with
    | false => rw [hv] at he; cases he
    | true =>
      rw [hv] at he
      cases he
      refine lv_dup hx hb hdec (by rw [m_cat_cv]; exact Nat.eq_of_beq_eq_true hv) ?_
      exact K p l e s m args below meth c N0 aI D Qf hC hF H locs ls k n hl hlen hP hS hk hb1 hb2
  next => cases he
set_option maxHeartbeats 4000000 in
set_option maxRecDepth 100000 in
theorem m_x_dup2 {X : Nat × Nat × (Nat → Int32)} {mi pc x y : Nat}  {z : Int} {L : List (Option mPV)} {S : List mPV} {w : mPW} {bc bs : Nat} {ps' : mPS} {Q : Option mPV → mPW → Prop} (hf : m_fetch mi pc = some (pc, .dup2, x, y, z)) (he : m_exec mi .dup2 x y z pc L S w bc bs = some ps') (K : m_Sem X mi ps' Q) : m_Sem X mi (pc, L, S, w, bc, bs) Q := by
  intro p l e s m args below meth c N0 aI D Qf hC hF H locs ls k n hl hlen hP hS hk hb1 hb2
  have hok := (m_fetch_ok hf).2
  obtain ⟨hx, hb, hml, hown, hts, hin, hK, h0, hX⟩ := id hC
  unfold m_okb at hok
  simp only [Bool.and_eq_true] at hok
  obtain ⟨hok1, hok2⟩ := hok
  dsimp only at hok1 hok2 hl hlen hP hS hk hb1 hb2
  have hdec := of_decide_eq_true hok1
  dsimp only [m_len] at hdec
  simp only [m_exec] at he
  split at he
  next =>
    rename_i u v S'
    cases hu : Nat.beq (m_cat u) 1 with
    | false => rw [hu] at he; cases he
    | true =>
      cases hv : Nat.beq (m_cat v) 1 with
      | false => rw [hu, hv] at he; cases he
      | true =>
        rw [hu, hv] at he
        cases he
        refine lv_dup2_11 hx hb hdec (by rw [m_cat_cv]; exact Nat.eq_of_beq_eq_true hu) (by rw [m_cat_cv]; exact Nat.eq_of_beq_eq_true hv) ?_
        exact K p l e s m args below meth c N0 aI D Qf hC hF H locs ls k n hl hlen hP hS hk hb1 hb2
  next => cases he
set_option maxHeartbeats 4000000 in
set_option maxRecDepth 100000 in
theorem m_x_goto {X : Nat × Nat × (Nat → Int32)} {mi pc x y : Nat} {o : Int} {z : Int} {L : List (Option mPV)} {S : List mPV} {w : mPW} {bc bs : Nat} {ps' : mPS} {Q : Option mPV → mPW → Prop} (hf : m_fetch mi pc = some (pc, (.goto o), x, y, z)) (he : m_exec mi (.goto o) x y z pc L S w bc bs = some ps') (K : m_Sem X mi ps' Q) : m_Sem X mi (pc, L, S, w, bc, bs) Q := by
  intro p l e s m args below meth c N0 aI D Qf hC hF H locs ls k n hl hlen hP hS hk hb1 hb2
  have hok := (m_fetch_ok hf).2
  obtain ⟨hx, hb, hml, hown, hts, hin, hK, h0, hX⟩ := id hC
  unfold m_okb at hok
  simp only [Bool.and_eq_true] at hok
  obtain ⟨hok1, hok2⟩ := hok
  dsimp only at hok1 hok2 hl hlen hP hS hk hb1 hb2
  have hdec := of_decide_eq_true hok1
  dsimp only [m_len] at hdec
  cases he
  refine lv_goto hx hb hdec (of_decide_eq_true hok2) ?_
  exact K p l e s m args below meth c N0 aI D Qf hC hF H locs ls k n hl hlen hP hS hk hb1 hb2
set_option maxHeartbeats 4000000 in
set_option maxRecDepth 100000 in
theorem m_x_iinc {X : Nat × Nat × (Nat → Int32)} {mi pc x y : Nat} {i : Nat} {d : Int} {z : Int} {L : List (Option mPV)} {S : List mPV} {w : mPW} {bc bs : Nat} {ps' : mPS} {Q : Option mPV → mPW → Prop} (hf : m_fetch mi pc = some (pc, (.iinc i d), x, y, z)) (he : m_exec mi (.iinc i d) x y z pc L S w bc bs = some ps') (K : m_Sem X mi ps' Q) : m_Sem X mi (pc, L, S, w, bc, bs) Q := by
  intro p l e s m args below meth c N0 aI D Qf hC hF H locs ls k n hl hlen hP hS hk hb1 hb2
  have hok := (m_fetch_ok hf).2
  obtain ⟨hx, hb, hml, hown, hts, hin, hK, h0, hX⟩ := id hC
  unfold m_okb at hok
  simp only [Bool.and_eq_true] at hok
  obtain ⟨hok1, hok2⟩ := hok
  dsimp only at hok1 hok2 hl hlen hP hS hk hb1 hb2
  have hdec := of_decide_eq_true hok1
  dsimp only [m_len] at hdec
  simp only [m_exec] at he
  split at he
  next v hv =>
    cases hi : Nat.blt i L.length with
    | false => rw [hi] at he; cases he
    | true =>
      rw [hi] at he
      cases he
      have hi := Nat.le_of_ble_eq_true hi
      have hm := m_as_get (N0 := N0) L 0 i _ hv
      rw [Nat.zero_add] at hm
      obtain ⟨j, hj⟩ := List.mem_iff_getElem?.mp hm
      refine lv_iinc hx hb hdec hl hj (m_of_add v d).symm (by rw [← hlen]; exact hi) rfl (fun ls2 hl2 => ?_)
      exact K p l e s m args below meth c N0 aI D Qf hC hF H locs ls2 k n (m_has_st rfl hl2) (by rw [m_st_len]; exact hlen) hP hS hk hb1 hb2
  next => cases he
set_option maxHeartbeats 4000000 in
set_option maxRecDepth 100000 in
theorem m_x_arraylength {X : Nat × Nat × (Nat → Int32)} {mi pc x y : Nat}  {z : Int} {L : List (Option mPV)} {S : List mPV} {w : mPW} {bc bs : Nat} {ps' : mPS} {Q : Option mPV → mPW → Prop} (hf : m_fetch mi pc = some (pc, .arraylength, x, y, z)) (he : m_exec mi .arraylength x y z pc L S w bc bs = some ps') (K : m_Sem X mi ps' Q) : m_Sem X mi (pc, L, S, w, bc, bs) Q := by
  intro p l e s m args below meth c N0 aI D Qf hC hF H locs ls k n hl hlen hP hS hk hb1 hb2
  have hok := (m_fetch_ok hf).2
  obtain ⟨hx, hb, hml, hown, hts, hin, hK, h0, hX⟩ := id hC
  unfold m_okb at hok
  simp only [Bool.and_eq_true] at hok
  obtain ⟨hok1, hok2⟩ := hok
  dsimp only at hok1 hok2 hl hlen hP hS hk hb1 hb2
  have hdec := of_decide_eq_true hok1
  dsimp only [m_len] at hdec
  simp only [m_exec] at he
  split at he
  next =>
    split at he
    next t v f hw =>
      cases ht : Nat.blt t 3 with
      | false => rw [ht] at he; cases he
      | true =>
        rw [ht] at he
        cases he
        have ht := Nat.le_of_ble_eq_true ht
        have hty : ∃ ty, (m_tys aI)[t]? = some (aI t, ty) := by
          rcases (show t = 0 ∨ t = 1 ∨ t = 2 by omega) with rfl | rfl | rfl
          · exact ⟨_, rfl⟩
          · exact ⟨_, rfl⟩
          · exact ⟨_, rfl⟩
        obtain ⟨ty, hty⟩ := hty
        have hv : Int32.ofInt (v : Int) = Int32.ofNat v := Int32.ofInt_eq_ofNat
        rcases f with f | f
        · refine va_alen hx hb hK hP _ t (m_cw_at hw) hty rfl hdec ?_
          show W p l e _ s m args below meth c H locs k n Qf (F0 m _ ls (.int (Int32.ofNat v) :: _))
          rw [← hv]
          exact K p l e s m args below meth c N0 aI D Qf hC hF H locs ls k n hl hlen hP hS hk hb1 hb2
        · refine va_alen hx hb hK hP _ t (m_cw_at hw) hty rfl hdec ?_
          show W p l e _ s m args below meth c H locs k n Qf (F0 m _ ls (.int (Int32.ofNat v) :: _))
          rw [← hv]
          exact K p l e s m args below meth c N0 aI D Qf hC hF H locs ls k n hl hlen hP hS hk hb1 hb2
    next => cases he
  next => cases he
set_option maxHeartbeats 4000000 in
set_option maxRecDepth 100000 in
theorem m_x_getfield {X : Nat × Nat × (Nat → Int32)} {mi pc x y : Nat} {i : Nat} {z : Int} {L : List (Option mPV)} {S : List mPV} {w : mPW} {bc bs : Nat} {ps' : mPS} {Q : Option mPV → mPW → Prop} (hf : m_fetch mi pc = some (pc, (.getfield i), x, y, z)) (he : m_exec mi (.getfield i) x y z pc L S w bc bs = some ps') (K : m_Sem X mi ps' Q) : m_Sem X mi (pc, L, S, w, bc, bs) Q := by
  intro p l e s m args below meth c N0 aI D Qf hC hF H locs ls k n hl hlen hP hS hk hb1 hb2
  have hok := (m_fetch_ok hf).2
  obtain ⟨hx, hb, hml, hown, hts, hin, hK, h0, hX⟩ := id hC
  unfold m_okb at hok
  simp only [Bool.and_eq_true] at hok
  obtain ⟨hok1, hok2⟩ := hok
  dsimp only at hok1 hok2 hl hlen hP hS hk hb1 hb2
  have hdec := of_decide_eq_true hok1
  dsimp only [m_len] at hdec
  obtain ⟨r, hr, hyN, hlink⟩ := m_flds_w _ (of_decide_eq_true hok2)
  simp only [m_exec] at he
  unfold m_getf at he
  split at he
  next q S' =>
    split at he
    next ci fs hw =>
      cases hci : Nat.beq ci x with
      | false => rw [hci] at he; cases he
      | true =>
        rw [hci] at he
        have hci := Nat.eq_of_beq_eq_true hci
        subst hci
        simp only [cond_true] at he
        split at he
        next v hv =>
          cases he
          refine va_get (C := r.1) (T := r.2.1) (N := r.2.2) hx hb hts (m_uw _ r hr) hown hK hP q (m_cw_at hw) hr y hyN (hts _ hlink) (fun _ h => h) (v := m_cv N0 v) (by rw [List.getElem?_map, hv]; rfl) hdec ?_
          exact K p l e s m args below meth c N0 aI D Qf hC hF H locs ls k n hl hlen hP hS hk hb1 hb2
        next => cases he
    next => cases he
  next => cases he
set_option maxHeartbeats 4000000 in
set_option maxRecDepth 100000 in
theorem m_x_putfield {X : Nat × Nat × (Nat → Int32)} {mi pc x y : Nat} {i : Nat} {z : Int} {L : List (Option mPV)} {S : List mPV} {w : mPW} {bc bs : Nat} {ps' : mPS} {Q : Option mPV → mPW → Prop} (hf : m_fetch mi pc = some (pc, (.putfield i), x, y, z)) (he : m_exec mi (.putfield i) x y z pc L S w bc bs = some ps') (K : m_Sem X mi ps' Q) : m_Sem X mi (pc, L, S, w, bc, bs) Q := by
  intro p l e s m args below meth c N0 aI D Qf hC hF H locs ls k n hl hlen hP hS hk hb1 hb2
  have hok := (m_fetch_ok hf).2
  obtain ⟨hx, hb, hml, hown, hts, hin, hK, h0, hX⟩ := id hC
  unfold m_okb at hok
  simp only [Bool.and_eq_true] at hok
  obtain ⟨hok1, hok2⟩ := hok
  dsimp only at hok1 hok2 hl hlen hP hS hk hb1 hb2
  have hdec := of_decide_eq_true hok1
  dsimp only [m_len] at hdec
  try simp only [Bool.and_eq_true] at hok2
  obtain ⟨hok2, hok3⟩ := hok2
  obtain ⟨r, hr, hyN, hlink⟩ := m_flds_w _ (of_decide_eq_true hok2)
  simp only [m_exec] at he
  have hr2 : vwCl[x]? = some r := hr
  rw [hr2] at hok3
  obtain ⟨ty0, hty, hnm, -⟩ := m_vt _ r hr
  by_cases hz : z = 0
  · rw [if_pos hz] at he
    simp only [hz, if_true] at hok3
    have hI : r.2.1 y = ((r.2.1 y).1, (r.2.1 y).2.1, "I", false) := of_decide_eq_true hok3
    unfold m_putI at he
    split at he
    next v q S' =>
      split at he
      next ci fs hw =>
        cases hci : Nat.beq ci x with
        | false => rw [hci] at he; cases he
        | true =>
          cases hyl : Nat.blt y fs.length with
          | false => rw [hci, hyl] at he; cases he
          | true =>
            rw [hci, hyl] at he
            have hci := Nat.eq_of_beq_eq_true hci
            subst hci
            have hyl := Nat.le_of_ble_eq_true hyl
            cases he
            refine va_put (C := r.1) (T := r.2.1) (N := r.2.2) (ty := .int) hx hb hts (m_uw _ r hr) ty0 hty hnm hown hK hP m_cw_D hS q (m_cw_at hw) hr y hyN (hts _ hlink) (fun _ h => h) (by rw [hI]) (by rw [hI]; show parseFieldDescriptor "I" = _; decide +kernel) rfl rfl (by rw [List.length_map]; exact hyl) hdec (fun H1 locs1 hP1 _ hS1 => ?_)
            have hP2 : va_P D vwCl (m_cw N0 aI 0 (w.set q (.inr (ci, fs.set y (.inl v))))) H1 := by
              rw [m_cw_set, Nat.zero_add]
              show va_P D vwCl ((m_cw N0 aI 0 w).set q (N0 + q, .inr (ci, (fs.set y (.inl v)).map (m_cv N0)))) H1
              rw [List.map_set]
              exact hP1
            exact K p l e s m args below meth c N0 aI D Qf hC hF H1 locs1 ls k n hl hlen hP2 hS1 (by rw [hk, List.length_set]) hb1 hb2
      next => cases he
    next => cases he
  · rw [if_neg hz] at he
    simp only [hz, if_false, Bool.and_eq_true] at hok3
    obtain ⟨⟨⟨g1, g2⟩, g3⟩, g4⟩ := hok3
    have hG : m_kind mi = 2 := of_decide_eq_true g2
    have hO : (r.2.1 y).1 = m_own mi := of_decide_eq_true g3
    unfold m_putA at he
    split at he
    next v q S' =>
      split at he
      next ci fs hw =>
        cases hci : Nat.beq ci x with
        | false => rw [hci] at he; cases he
        | true =>
          cases hyl : Nat.blt y fs.length with
          | false => rw [hci, hyl] at he; cases he
          | true =>
            rw [hci, hyl] at he
            have hci := Nat.eq_of_beq_eq_true hci
            subst hci
            have hyl := Nat.le_of_ble_eq_true hyl
            cases he
            obtain ⟨ty, hd, hn, hf⟩ : ∃ ty, parseFieldDescriptor (r.2.1 y).2.2.1 = some ty ∧ narrow ty (.ref (N0 + v)) = .ref (N0 + v) ∧ fits ty (.ref (N0 + v)) = true := by
              split at g4
              next o h => exact ⟨_, h, rfl, rfl⟩
              next o h => exact ⟨_, h, rfl, rfl⟩
              next => cases g4
            refine va_putF (C := r.1) (T := r.2.1) (N := r.2.2) (ty := ty) (v := .ref (N0 + v)) hx hb hts (m_uw _ r hr) ty0 hty hnm hown hK hP m_cw_D hS q (m_cw_at hw) hr y hyN (hts _ hlink) (fun _ h => h) g1 (hin hG) hO hd hn hf (by rw [List.length_map]; exact hyl) hdec (fun H1 locs1 hP1 _ hS1 => ?_)
            have hP2 : va_P D vwCl (m_cw N0 aI 0 (w.set q (.inr (ci, fs.set y (.inr (.inl v)))))) H1 := by
              rw [m_cw_set, Nat.zero_add]
              show va_P D vwCl ((m_cw N0 aI 0 w).set q (N0 + q, .inr (ci, (fs.set y (.inr (.inl v))).map (m_cv N0)))) H1
              rw [List.map_set]
              exact hP1
            exact K p l e s m args below meth c N0 aI D Qf hC hF H1 locs1 ls k n hl hlen hP2 hS1 (by rw [hk, List.length_set]) hb1 hb2
      next => cases he
    next => cases he
set_option maxHeartbeats 4000000 in
set_option maxRecDepth 100000 in
theorem m_x_new {X : Nat × Nat × (Nat → Int32)} {mi pc x y : Nat} {i : Nat} {z : Int} {L : List (Option mPV)} {S : List mPV} {w : mPW} {bc bs : Nat} {ps' : mPS} {Q : Option mPV → mPW → Prop} (hf : m_fetch mi pc = some (pc, (.new i), x, y, z)) (he : m_exec mi (.new i) x y z pc L S w bc bs = some ps') (K : m_Sem X mi ps' Q) : m_Sem X mi (pc, L, S, w, bc, bs) Q := by
  intro p l e s m args below meth c N0 aI D Qf hC hF H locs ls k n hl hlen hP hS hk hb1 hb2
  have hok := (m_fetch_ok hf).2
  obtain ⟨hx, hb, hml, hown, hts, hin, hK, h0, hX⟩ := id hC
  unfold m_okb at hok
  simp only [Bool.and_eq_true] at hok
  obtain ⟨hok1, hok2⟩ := hok
  dsimp only at hok1 hok2 hl hlen hP hS hk hb1 hb2
  have hdec := of_decide_eq_true hok1
  dsimp only [m_len] at hdec
  obtain ⟨r, hr, hcl, hin1, hin2⟩ := m_clss_w _ (of_decide_eq_true hok2)
  obtain ⟨ty0, hty, hnm, hdf⟩ := m_vt _ r hr
  simp only [m_exec] at he
  unfold m_newo at he
  split at he
  next r' fs b h1 h2 =>
    cases hr.symm.trans h1
    cases hbs : Nat.ble r.2.2 bs with
    | false => rw [hbs] at he; cases he
    | true =>
      rw [hbs] at he
      cases he
      have hbs := Nat.le_of_ble_eq_true hbs
      intro T hT XT
      subst hT
      have hz := m_size (X := X) (mi := mi) h0 hP hS hk XT
      have hKn := hK.1 x _ hr
      suffices key : W p l e (m_rm mi) s m args below meth c T.heap locs k n Qf (F0 m pc ls (S.map (m_cv N0))) from key T rfl XT
      refine W.newcK (C := r.1) (n := r.2.2) hx hb hown (hts _ hcl) (hts _ hin1) (hts _ hin2) rfl hdec (by omega) (by omega) hKn.2.1 hz (fun H1 kC hkC e1 z1 o1 => ?_)
      have hP2 : va_P D vwCl (m_cw N0 aI 0 (w ++ [.inr (x, fs)])) H1 := by
        rw [m_cw_app, Nat.zero_add]
        refine (hP.kept (fun j q hq => o1 q.1 (by have h3 : q.1 < T.heap.size := (hP j q hq).lt; omega))).app (fun j q hq => ?_)
        have hj : j < 1 := (List.getElem?_eq_some_iff.mp hq).1
        rw [show j = 0 by omega] at hq
        cases hq
        exact ⟨_, hr, (u_born ty0 hts (m_uw _ r hr) hKn hkC e1 hty).to (hdf fs h2 N0)⟩
      exact K p l e s m args below meth c N0 aI D Qf hC hF H1 locs ls (k + 1) (n + r.2.2) hl hlen hP2 ⟨Nat.le_trans hS.1 (by omega), fun q g1 g2 => (o1 q (by have := hS.1; omega)).trans (hS.2.1 q g1 g2), hS.2.2⟩ (by rw [List.length_append]; show _ = _ + (_ + 1); omega) (by show k + 1 + b = _; omega) (by show n + r.2.2 + (bs - r.2.2) ≤ _; omega)
  next => cases he
set_option maxHeartbeats 4000000 in
set_option maxRecDepth 100000 in
theorem m_x_newarray {X : Nat × Nat × (Nat → Int32)} {mi pc x y : Nat} {t : ArrayType} {z : Int} {L : List (Option mPV)} {S : List mPV} {w : mPW} {bc bs : Nat} {ps' : mPS} {Q : Option mPV → mPW → Prop} (hf : m_fetch mi pc = some (pc, (.newarray t), x, y, z)) (he : m_exec mi (.newarray t) x y z pc L S w bc bs = some ps') (K : m_Sem X mi ps' Q) : m_Sem X mi (pc, L, S, w, bc, bs) Q := by
  intro p l e s m args below meth c N0 aI D Qf hC hF H locs ls k n hl hlen hP hS hk hb1 hb2
  have hok := (m_fetch_ok hf).2
  obtain ⟨hx, hb, hml, hown, hts, hin, hK, h0, hX⟩ := id hC
  unfold m_okb at hok
  simp only [Bool.and_eq_true] at hok
  obtain ⟨hok1, hok2⟩ := hok
  dsimp only at hok1 hok2 hl hlen hP hS hk hb1 hb2
  have hdec := of_decide_eq_true hok1
  dsimp only [m_len] at hdec
  try simp only [Bool.and_eq_true] at hok2
  obtain ⟨hok2, hok3⟩ := hok2
  have hok2 := of_decide_eq_true hok2
  have hok3 := of_decide_eq_true hok3
  simp only [m_exec] at he
  unfold m_newr at he
  split at he
  next v S' =>
    split at he
    next b =>
      cases hbs : (Nat.ble v bs && Nat.ble v 65536 && Nat.blt x 3) with
      | false => rw [hbs] at he; cases he
      | true =>
        rw [hbs] at he
        cases he
        simp only [Bool.and_eq_true] at hbs
        obtain ⟨⟨hbs, hb6⟩, -⟩ := hbs
        have hbs := Nat.le_of_ble_eq_true hbs
        have hb6 := Nat.le_of_ble_eq_true hb6
        intro T hT XT
        subst hT
        have hz := m_size (X := X) (mi := mi) h0 hP hS hk XT
        have hR : m_R (Int.ofNat v) := ⟨by have := Int.natCast_nonneg v; show _ ≤ (v : Int); omega, by show (v : Int) < _; omega⟩
        have hv0 : ¬ Int32.ofInt (Int.ofNat v) < 0 := by
          have h3 := m_R_lt hR m_R_0
          rw [show (Int32.ofInt 0) = 0 from rfl] at h3
          rw [h3]
          have := Int.natCast_nonneg v
          show ¬ (v : Int) < 0
          omega
        have harr : (Cond.arrayClass (newarray.typeOf t)).before args s = true := by
          rw [hok2]
          rcases (show x = 0 ∨ x = 1 ∨ x = 2 by have : x < 3 := hok3; omega) with rfl | rfl | rfl
          · exact hts _ m_arr_w.1
          · exact hts _ m_arr_w.2.1
          · exact hts _ m_arr_w.2.2
        have hcb : componentBytes (newarray.typeOf t) ≤ 8 := by cases t <;> decide
        suffices key : W p l e (m_rm mi) s m args below meth c T.heap locs k n Qf (F0 m pc ls ((.inl (Int.ofNat v) :: S').map (m_cv N0))) from key T rfl XT
        refine va_newaK (N := v) hx hb harr rfl hdec rfl hv0 (by rw [m_R_nat hR]; rfl) (by have := Nat.mul_le_mul hb6 hcb; omega) (by omega) (by omega) hz (fun H1 cA e1 z1 o1 hA1 hA2 => ?_)
        have hP2 : va_P D vwCl (m_cw N0 aI 0 (w ++ [.inl (x, v, bif Nat.beq x 2 then .inr (fun _ => 0) else .inl (fun _ => 0))])) H1 := by
          rw [m_cw_app, Nat.zero_add]
          refine (hP.kept (fun j q hq => o1 q.1 (by have h3 : q.1 < T.heap.size := (hP j q hq).lt; omega))).app (fun j q hq => ?_)
          have hj : j < 1 := (List.getElem?_eq_some_iff.mp hq).1
          rw [show j = 0 by omega] at hq
          cases hq
          rw [hok2] at e1 hA2
          show va_at D vwCl (N0 + w.length, _) H1
          rcases (show x = 0 ∨ x = 1 ∨ x = 2 by have : x < 3 := hok3; omega) with rfl | rfl | rfl
          · have hc : aI 0 = cA := Option.some.inj ((hK.2 0 _ rfl).2.symm.trans hA2)
            show H1[N0 + w.length]? = some (vp_cell (aI 0) (v, .inl (fun _ => Int32.ofInt 0)))
            rw [hc, vp_cell_i]
            exact e1
          · have hc : aI 1 = cA := Option.some.inj ((hK.2 1 _ rfl).2.symm.trans hA2)
            show H1[N0 + w.length]? = some (vp_cell (aI 1) (v, .inl (fun _ => Int32.ofInt 0)))
            rw [hc, vp_cell_i]
            exact e1
          · have hc : aI 2 = cA := Option.some.inj ((hK.2 2 _ rfl).2.symm.trans hA2)
            show H1[N0 + w.length]? = some (vp_cell (aI 2) (v, .inr (.inl (fun _ => 0))))
            rw [hc, vp_cell_l]
            exact e1
        exact K p l e s m args below meth c N0 aI D Qf hC hF H1 locs ls (k + 1) (n + v) hl hlen hP2 ⟨Nat.le_trans hS.1 (by omega), fun q g1 g2 => (o1 q (by have := hS.1; omega)).trans (hS.2.1 q g1 g2), hS.2.2⟩ (by rw [List.length_append]; show _ = _ + (_ + 1); omega) (by show k + 1 + b = _; omega) (by show n + v + (bs - v) ≤ _; omega)
    next => cases he
  next => cases he
set_option maxHeartbeats 4000000 in
set_option maxRecDepth 100000 in
theorem m_x_invokespecial {X : Nat × Nat × (Nat → Int32)} {mi pc x y : Nat} {i : Nat} {z : Int} {L : List (Option mPV)} {S : List mPV} {w : mPW} {bc bs : Nat} {ps' : mPS} {Q : Option mPV → mPW → Prop} (hf : m_fetch mi pc = some (pc, (.invokespecial i), x, y, z)) (he : m_exec mi (.invokespecial i) x y z pc L S w bc bs = some ps') (K : m_Sem X mi ps' Q) : m_Sem X mi (pc, L, S, w, bc, bs) Q := by
  intro p l e s m args below meth c N0 aI D Qf hC hF H locs ls k n hl hlen hP hS hk hb1 hb2
  have hok := (m_fetch_ok hf).2
  obtain ⟨hx, hb, hml, hown, hts, hin, hK, h0, hX⟩ := id hC
  unfold m_okb at hok
  simp only [Bool.and_eq_true] at hok
  obtain ⟨hok1, hok2⟩ := hok
  dsimp only at hok1 hok2 hl hlen hP hS hk hb1 hb2
  have hdec := of_decide_eq_true hok1
  dsimp only [m_len] at hdec
  try simp only [Bool.and_eq_true] at hok2
  obtain ⟨hok2, hok3⟩ := hok2
  have hw := m_mths_w _ (of_decide_eq_true hok2)
  simp only [m_exec] at he
  split at he
  next q S' =>
    cases hg : (Nat.beq x 1000 && (Nat.ble 1 (m_rm mi).frames && Nat.ble ((S'.map m_cat).sum + 12) (m_rm mi).locals)) with
    | false => rw [hg] at he; cases he
    | true =>
      rw [hg] at he
      cases he
      simp only [Bool.and_eq_true] at hg
      obtain ⟨h1, h2, h3⟩ := hg
      have h1 := Nat.eq_of_beq_eq_true h1
      have h2 := Nat.le_of_ble_eq_true h2
      have h3 := Nat.le_of_ble_eq_true h3
      subst h1
      refine W.objInit hx hb hown (hts _ hw) (hts _ m_obj_w.1) (hts _ m_obj_w.2) rfl (by rw [hml]; exact hl.1) rfl hdec h2 (by show 2 * 0 + _ + 12 ≤ _; rw [m_cats]; omega) ?_
      exact K p l e s m args below meth c N0 aI D Qf hC hF H locs ls k n hl hlen hP hS hk hb1 hb2
  next => cases he
set_option maxHeartbeats 4000000 in
theorem m_step1 {X : Nat × Nat × (Nat → Int32)} {mi pc x y : Nat} {ins : Instr} {z : Int} {L : List (Option mPV)} {S : List mPV} {w : mPW} {bc bs : Nat} {ps' : mPS} {Q : Option mPV → mPW → Prop} (hf : m_fetch mi pc = some (pc, ins, x, y, z)) (he : m_exec mi ins x y z pc L S w bc bs = some ps') (K : m_Sem X mi ps' Q) : m_Sem X mi (pc, L, S, w, bc, bs) Q := by
  cases ins
  case iload i => exact m_x_iload hf he K
  case lload i => exact m_x_lload hf he K
  case iload_n i => exact m_x_iload_n hf he K
  case lload_n i => exact m_x_lload_n hf he K
  case fload_n i => exact m_x_fload_n hf he K
  case aload i => exact m_x_aload hf he K
  case aload_n i => exact m_x_aload_n hf he K
  case istore i => exact m_x_istore hf he K
  case istore_n i => exact m_x_istore_n hf he K
  case astore_n i => exact m_x_astore_n hf he K
  case fstore_n i => exact m_x_fstore_n hf he K
  case lstore i => exact m_x_lstore hf he K
  case lstore_n i => exact m_x_lstore_n hf he K
  case iconst v => exact m_x_iconst hf he K
  case bipush v => exact m_x_bipush hf he K
  case sipush v => exact m_x_sipush hf he K
  case ldc i => exact m_x_ldc hf he K
  case ldc_w i => exact m_x_ldc_w hf he K
  case lconst v => exact m_x_lconst hf he K
  case fconst v => exact m_x_fconst hf he K
  case iadd => exact m_x_iadd hf he K
  case isub => exact m_x_isub hf he K
  case imul => exact m_x_imul hf he K
  case iand => exact m_x_iand hf he K
  case ior => exact m_x_ior hf he K
  case ixor => exact m_x_ixor hf he K
  case ishl => exact m_x_ishl hf he K
  case ishr => exact m_x_ishr hf he K
  case iushr => exact m_x_iushr hf he K
  case land => exact m_x_land hf he K
  case lor => exact m_x_lor hf he K
  case lsub => exact m_x_lsub hf he K
  case lshl => exact m_x_lshl hf he K
  case lshr => exact m_x_lshr hf he K
  case lcmp => exact m_x_lcmp hf he K
  case l2i => exact m_x_l2i hf he K
  case i2f => exact m_x_i2f hf he K
  case f2i => exact m_x_f2i hf he K
  case fcmp o => exact m_x_fcmp hf he K
  case pop => exact m_x_pop hf he K
  case dup => exact m_x_dup hf he K
  case dup2 => exact m_x_dup2 hf he K
  case goto o => exact m_x_goto hf he K
  case iinc i d => exact m_x_iinc hf he K
  case arraylength => exact m_x_arraylength hf he K
  case getfield i => exact m_x_getfield hf he K
  case putfield i => exact m_x_putfield hf he K
  case new i => exact m_x_new hf he K
  case newarray t => exact m_x_newarray hf he K
  case invokespecial i => exact m_x_invokespecial hf he K
  all_goals (exact absurd he (fun h => by cases h))
end
section

def m_stp (mi : Nat) (ps : mPS) : Option mPS := match m_fetch mi ps.1 with
  | some e => m_exec mi e.2.1 e.2.2.1 e.2.2.2.1 e.2.2.2.2 ps.1 ps.2.1 ps.2.2.1 ps.2.2.2.1 ps.2.2.2.2.1 ps.2.2.2.2.2
  | none => none
def m_go : Nat → Nat → mPS → Option mPS
  | 0, _, ps => some ps
  | n + 1, mi, ps => match m_stp mi ps with
    | some q => m_go n mi q
    | none => none
theorem m_step {X : Nat × Nat × (Nat → Int32)} {mi : Nat} {ps ps' : mPS} {Q : Option mPV → mPW → Prop} (h : m_stp mi ps = some ps') (K : m_Sem X mi ps' Q) : m_Sem X mi ps Q := by
  obtain ⟨pc, L, S, w, bc, bs⟩ := ps
  unfold m_stp at h
  split at h
  next e hf =>
    obtain ⟨pc', ins, x, y, z⟩ := e
    have hpc : pc' = pc := (m_fetch_ok hf).1
    subst hpc
    exact m_step1 hf h K
  next => cases h
/-- some plain steps at once -/
theorem m_run {X : Nat × Nat × (Nat → Int32)} {mi : Nat} : ∀ (n : Nat) {ps ps' : mPS} {Q : Option mPV → mPW → Prop}, m_go n mi ps = some ps' → m_Sem X mi ps' Q → m_Sem X mi ps Q
  | 0, ps, ps', Q, h, K => by cases h; exact K
  | n + 1, ps, ps', Q, h, K => by
    unfold m_go at h
    split at h
    next q hq => exact m_step hq (m_run n h K)
    next => cases h
def m_cnd : Jvm.ClassFile.Cond → Int → Int → Prop
  | .eq, a, b => a = b
  | .ne, a, b => ¬ a = b
  | .lt, a, b => a < b
  | .ge, a, b => b ≤ a
  | .gt, a, b => b < a
  | .le, a, b => a ≤ b

set_option maxHeartbeats 4000000 in
set_option maxRecDepth 100000 in
theorem m_if {X : Nat × Nat × (Nat → Int32)} {mi pc x y : Nat} {z : Int} {L : List (Option mPV)} {S : List mPV} {w : mPW} {bc bs : Nat} {Q : Option mPV → mPW → Prop} {cd : Jvm.ClassFile.Cond} {off : Int} {a : Int} (hf : m_fetch mi pc = some (pc, .ifCond cd off, x, y, z)) (ha : m_R a) (kt : m_cnd cd a 0 → m_Sem X mi (x, L, S, w, bc, bs) Q) (kf : ¬ m_cnd cd a 0 → m_Sem X mi (pc + 3, L, S, w, bc, bs) Q) : m_Sem X mi (pc, L, .inl a :: S, w, bc, bs) Q := by
  intro p l e s m args below meth c N0 aI D Qf hC hF H locs ls k n hl hlen hP hS hk hb1 hb2
  have hok := (m_fetch_ok hf).2
  obtain ⟨hx, hb, hml, hown, hts, hin, hK, h0, hX⟩ := id hC
  unfold m_okb at hok
  simp only [Bool.and_eq_true] at hok
  obtain ⟨hok1, hok2⟩ := hok
  dsimp only at hok1 hok2 hl hlen hP hS hk hb1 hb2
  have hdec := of_decide_eq_true hok1
  dsimp only [m_len] at hdec
  have ht := of_decide_eq_true hok2
  cases cd
  case eq =>
    refine lv_if_eq hx hb hdec ht (fun h => ?_) (fun h => ?_)
    · exact kt ((m_R_eq ha m_R_0).mp h) p l e s m args below meth c N0 aI D Qf hC hF H locs ls k n hl hlen hP hS hk hb1 hb2
    · exact kf (fun hc => h ((m_R_eq ha m_R_0).mpr hc)) p l e s m args below meth c N0 aI D Qf hC hF H locs ls k n hl hlen hP hS hk hb1 hb2
  case ne =>
    refine lv_if_ne hx hb hdec ht (fun h => ?_) (fun h => ?_)
    · exact kt (fun hc => h ((m_R_eq ha m_R_0).mpr hc)) p l e s m args below meth c N0 aI D Qf hC hF H locs ls k n hl hlen hP hS hk hb1 hb2
    · exact kf (fun hc => hc ((m_R_eq ha m_R_0).mp h)) p l e s m args below meth c N0 aI D Qf hC hF H locs ls k n hl hlen hP hS hk hb1 hb2
  case lt =>
    refine lv_if_lt hx hb hdec ht (fun h => ?_) (fun h => ?_)
    · exact kt ((m_R_lt ha m_R_0).mp h) p l e s m args below meth c N0 aI D Qf hC hF H locs ls k n hl hlen hP hS hk hb1 hb2
    · exact kf (fun hc => h ((m_R_lt ha m_R_0).mpr hc)) p l e s m args below meth c N0 aI D Qf hC hF H locs ls k n hl hlen hP hS hk hb1 hb2
  case ge =>
    refine lv_if_ge hx hb hdec ht (fun h => ?_) (fun h => ?_)
    · exact kt ((m_R_le m_R_0 ha).mp h) p l e s m args below meth c N0 aI D Qf hC hF H locs ls k n hl hlen hP hS hk hb1 hb2
    · exact kf (fun hc => h ((m_R_le m_R_0 ha).mpr hc)) p l e s m args below meth c N0 aI D Qf hC hF H locs ls k n hl hlen hP hS hk hb1 hb2
  case gt =>
    refine lv_if_gt hx hb hdec ht (fun h => ?_) (fun h => ?_)
    · exact kt ((m_R_lt m_R_0 ha).mp h) p l e s m args below meth c N0 aI D Qf hC hF H locs ls k n hl hlen hP hS hk hb1 hb2
    · exact kf (fun hc => h ((m_R_lt m_R_0 ha).mpr hc)) p l e s m args below meth c N0 aI D Qf hC hF H locs ls k n hl hlen hP hS hk hb1 hb2
  case le =>
    refine lv_if_le hx hb hdec ht (fun h => ?_) (fun h => ?_)
    · exact kt ((m_R_le ha m_R_0).mp h) p l e s m args below meth c N0 aI D Qf hC hF H locs ls k n hl hlen hP hS hk hb1 hb2
    · exact kf (fun hc => h ((m_R_le ha m_R_0).mpr hc)) p l e s m args below meth c N0 aI D Qf hC hF H locs ls k n hl hlen hP hS hk hb1 hb2

set_option maxHeartbeats 4000000 in
set_option maxRecDepth 100000 in
theorem m_icmp {X : Nat × Nat × (Nat → Int32)} {mi pc x y : Nat} {z : Int} {L : List (Option mPV)} {S : List mPV} {w : mPW} {bc bs : Nat} {Q : Option mPV → mPW → Prop} {cd : Jvm.ClassFile.Cond} {off : Int} {a b : Int} (hf : m_fetch mi pc = some (pc, .if_icmp cd off, x, y, z)) (ha : m_R a) (hb0 : m_R b) (kt : m_cnd cd a b → m_Sem X mi (x, L, S, w, bc, bs) Q) (kf : ¬ m_cnd cd a b → m_Sem X mi (pc + 3, L, S, w, bc, bs) Q) : m_Sem X mi (pc, L, .inl b :: .inl a :: S, w, bc, bs) Q := by
  intro p l e s m args below meth c N0 aI D Qf hC hF H locs ls k n hl hlen hP hS hk hb1 hb2
  have hok := (m_fetch_ok hf).2
  obtain ⟨hx, hb, hml, hown, hts, hin, hK, h0, hX⟩ := id hC
  unfold m_okb at hok
  simp only [Bool.and_eq_true] at hok
  obtain ⟨hok1, hok2⟩ := hok
  dsimp only at hok1 hok2 hl hlen hP hS hk hb1 hb2
  have hdec := of_decide_eq_true hok1
  dsimp only [m_len] at hdec
  have ht := of_decide_eq_true hok2
  cases cd
  case eq =>
    refine lv_icmp_eq hx hb hdec ht (fun h => ?_) (fun h => ?_)
    · exact kt ((m_R_eq ha hb0).mp h) p l e s m args below meth c N0 aI D Qf hC hF H locs ls k n hl hlen hP hS hk hb1 hb2
    · exact kf (fun hc => h ((m_R_eq ha hb0).mpr hc)) p l e s m args below meth c N0 aI D Qf hC hF H locs ls k n hl hlen hP hS hk hb1 hb2
  case ne =>
    refine lv_icmp_ne hx hb hdec ht (fun h => ?_) (fun h => ?_)
    · exact kt (fun hc => h ((m_R_eq ha hb0).mpr hc)) p l e s m args below meth c N0 aI D Qf hC hF H locs ls k n hl hlen hP hS hk hb1 hb2
    · exact kf (fun hc => hc ((m_R_eq ha hb0).mp h)) p l e s m args below meth c N0 aI D Qf hC hF H locs ls k n hl hlen hP hS hk hb1 hb2
  case lt =>
    refine lv_icmp_lt hx hb hdec ht (fun h => ?_) (fun h => ?_)
    · exact kt ((m_R_lt ha hb0).mp h) p l e s m args below meth c N0 aI D Qf hC hF H locs ls k n hl hlen hP hS hk hb1 hb2
    · exact kf (fun hc => h ((m_R_lt ha hb0).mpr hc)) p l e s m args below meth c N0 aI D Qf hC hF H locs ls k n hl hlen hP hS hk hb1 hb2
  case ge =>
    refine lv_icmp_ge hx hb hdec ht (fun h => ?_) (fun h => ?_)
    · exact kt ((m_R_le hb0 ha).mp h) p l e s m args below meth c N0 aI D Qf hC hF H locs ls k n hl hlen hP hS hk hb1 hb2
    · exact kf (fun hc => h ((m_R_le hb0 ha).mpr hc)) p l e s m args below meth c N0 aI D Qf hC hF H locs ls k n hl hlen hP hS hk hb1 hb2
  case gt =>
    refine lv_icmp_gt hx hb hdec ht (fun h => ?_) (fun h => ?_)
    · exact kt ((m_R_lt hb0 ha).mp h) p l e s m args below meth c N0 aI D Qf hC hF H locs ls k n hl hlen hP hS hk hb1 hb2
    · exact kf (fun hc => h ((m_R_lt hb0 ha).mpr hc)) p l e s m args below meth c N0 aI D Qf hC hF H locs ls k n hl hlen hP hS hk hb1 hb2
  case le =>
    refine lv_icmp_le hx hb hdec ht (fun h => ?_) (fun h => ?_)
    · exact kt ((m_R_le ha hb0).mp h) p l e s m args below meth c N0 aI D Qf hC hF H locs ls k n hl hlen hP hS hk hb1 hb2
    · exact kf (fun hc => h ((m_R_le ha hb0).mpr hc)) p l e s m args below meth c N0 aI D Qf hC hF H locs ls k n hl hlen hP hS hk hb1 hb2


def m_up (f : Int → Int) (j v : Int) : Int → Int := fun i => if i = j then v else f i
theorem m_up_s (f : Int → Int) (j v : Int) : m_up f j v j = v := if_pos rfl
theorem m_up_n (f : Int → Int) {j i : Int} (v : Int) (h : ¬ i = j) : m_up f j v i = f i := if_neg h
theorem m_up_cv (f : Int → Int) {j : Int} (v : Int) (hj : 0 ≤ j) : (fun i : Nat => Int32.ofInt (m_up f j v (i : Int))) = upd (fun i : Nat => Int32.ofInt (f (i : Int))) j.toNat (Int32.ofInt v) := by
  funext i
  by_cases h : (i : Int) = j
  · have h2 : i = j.toNat := by omega
    rw [h, m_up_s]
    simp [upd, h2]
  · have h2 : ¬ i = j.toNat := by omega
    rw [m_up_n f v h]
    simp [upd, h2]
theorem m_vin {j : Int} {v : Nat} (h1 : 0 ≤ j) (h2 : j < v) (h3 : v < 2147483648) : vp_in (Int32.ofInt j) v := by
  have hR : m_R j := ⟨by omega, by omega⟩
  rw [vp_in_iff, m_R_to hR]
  exact ⟨h1, h2⟩
theorem m_nat {j : Int} {v : Nat} (h1 : 0 ≤ j) (h2 : j < v) (h3 : v < 2147483648) : (Int32.ofInt j).toNatClampNeg = j.toNat := m_R_nat ⟨by omega, by omega⟩

set_option maxHeartbeats 4000000 in
set_option maxRecDepth 100000 in
theorem m_iald {X : Nat × Nat × (Nat → Int32)} {mi pc x y : Nat} {z : Int} {L : List (Option mPV)} {S : List mPV} {w : mPW} {bc bs : Nat} {Q : Option mPV → mPW → Prop} {j : Int} {q v : Nat} {f : Int → Int} (hf : m_fetch mi pc = some (pc, .iaload, x, y, z)) (hw : w[q]? = some (.inl (0, v, .inl f))) (h1 : 0 ≤ j) (h2 : j < v) (h3 : v < 2147483648) (K : m_Sem X mi (pc + 1, L, .inl (f j) :: S, w, bc, bs) Q) : m_Sem X mi (pc, L, .inl j :: .inr (.inl q) :: S, w, bc, bs) Q := by
  intro p l e s m args below meth c N0 aI D Qf hC hF H locs ls k n hl hlen hP hS hk hb1 hb2
  have hok := (m_fetch_ok hf).2
  obtain ⟨hx, hb, hml, hown, hts, hin, hK, h0, hX⟩ := id hC
  unfold m_okb at hok
  simp only [Bool.and_eq_true] at hok
  obtain ⟨hok1, hok2⟩ := hok
  dsimp only at hok1 hok2 hl hlen hP hS hk hb1 hb2
  have hdec := of_decide_eq_true hok1
  dsimp only [m_len] at hdec
  refine va_iald hx hb hK hP q 0 (m_cw_at hw) rfl (m_vin h1 h2 h3) hdec ?_
  rw [m_nat h1 h2 h3]
  have hj : ((j.toNat : Nat) : Int) = j := Int.toNat_of_nonneg h1
  show W p l e _ s m args below meth c H locs k n Qf (F0 m _ ls (.int (Int32.ofInt (f ((j.toNat : Nat) : Int))) :: _))
  rw [hj]
  exact K p l e s m args below meth c N0 aI D Qf hC hF H locs ls k n hl hlen hP hS hk hb1 hb2

set_option maxHeartbeats 4000000 in
set_option maxRecDepth 100000 in
theorem m_cald {X : Nat × Nat × (Nat → Int32)} {mi pc x y : Nat} {z : Int} {L : List (Option mPV)} {S : List mPV} {w : mPW} {bc bs : Nat} {Q : Option mPV → mPW → Prop} {j : Int} {q v : Nat} {f : Int → Int} (hf : m_fetch mi pc = some (pc, .caload, x, y, z)) (hw : w[q]? = some (.inl (1, v, .inl f))) (h1 : 0 ≤ j) (h2 : j < v) (h3 : v < 2147483648) (K : m_Sem X mi (pc + 1, L, .inl (f j) :: S, w, bc, bs) Q) : m_Sem X mi (pc, L, .inl j :: .inr (.inl q) :: S, w, bc, bs) Q := by
  intro p l e s m args below meth c N0 aI D Qf hC hF H locs ls k n hl hlen hP hS hk hb1 hb2
  have hok := (m_fetch_ok hf).2
  obtain ⟨hx, hb, hml, hown, hts, hin, hK, h0, hX⟩ := id hC
  unfold m_okb at hok
  simp only [Bool.and_eq_true] at hok
  obtain ⟨hok1, hok2⟩ := hok
  dsimp only at hok1 hok2 hl hlen hP hS hk hb1 hb2
  have hdec := of_decide_eq_true hok1
  dsimp only [m_len] at hdec
  refine va_cald hx hb hK hP q 1 (m_cw_at hw) rfl (m_vin h1 h2 h3) hdec ?_
  rw [m_nat h1 h2 h3]
  have hj : ((j.toNat : Nat) : Int) = j := Int.toNat_of_nonneg h1
  show W p l e _ s m args below meth c H locs k n Qf (F0 m _ ls (.int (Int32.ofInt (f ((j.toNat : Nat) : Int))) :: _))
  rw [hj]
  exact K p l e s m args below meth c N0 aI D Qf hC hF H locs ls k n hl hlen hP hS hk hb1 hb2

set_option maxHeartbeats 4000000 in
set_option maxRecDepth 100000 in
theorem m_lald {X : Nat × Nat × (Nat → Int32)} {mi pc x y : Nat} {z : Int} {L : List (Option mPV)} {S : List mPV} {w : mPW} {bc bs : Nat} {Q : Option mPV → mPW → Prop} {j : Int} {q v : Nat} {f : Nat → Int64} (hf : m_fetch mi pc = some (pc, .laload, x, y, z)) (hw : w[q]? = some (.inl (2, v, .inr f))) (h1 : 0 ≤ j) (h2 : j < v) (h3 : v < 2147483648) (K : m_Sem X mi (pc + 1, L, .inr (.inr (.long (f j.toNat))) :: S, w, bc, bs) Q) : m_Sem X mi (pc, L, .inl j :: .inr (.inl q) :: S, w, bc, bs) Q := by
  intro p l e s m args below meth c N0 aI D Qf hC hF H locs ls k n hl hlen hP hS hk hb1 hb2
  have hok := (m_fetch_ok hf).2
  obtain ⟨hx, hb, hml, hown, hts, hin, hK, h0, hX⟩ := id hC
  unfold m_okb at hok
  simp only [Bool.and_eq_true] at hok
  obtain ⟨hok1, hok2⟩ := hok
  dsimp only at hok1 hok2 hl hlen hP hS hk hb1 hb2
  have hdec := of_decide_eq_true hok1
  dsimp only [m_len] at hdec
  refine va_lald hx hb hK hP q 2 (m_cw_at hw) rfl (m_vin h1 h2 h3) hdec ?_
  rw [m_nat h1 h2 h3]
  exact K p l e s m args below meth c N0 aI D Qf hC hF H locs ls k n hl hlen hP hS hk hb1 hb2

set_option maxHeartbeats 4000000 in
set_option maxRecDepth 100000 in
theorem m_iast {X : Nat × Nat × (Nat → Int32)} {mi pc x y : Nat} {z : Int} {L : List (Option mPV)} {S : List mPV} {w : mPW} {bc bs : Nat} {Q : Option mPV → mPW → Prop} {j u : Int} {q v : Nat} {f : Int → Int} (hf : m_fetch mi pc = some (pc, .iastore, x, y, z)) (hw : w[q]? = some (.inl (0, v, .inl f))) (h1 : 0 ≤ j) (h2 : j < v) (h3 : v < 2147483648) (K : m_Sem X mi (pc + 1, L, S, w.set q (.inl (0, v, .inl (m_up f j u))), bc, bs) Q) : m_Sem X mi (pc, L, .inl u :: .inl j :: .inr (.inl q) :: S, w, bc, bs) Q := by
  intro p l e s m args below meth c N0 aI D Qf hC hF H locs ls k n hl hlen hP hS hk hb1 hb2
  have hok := (m_fetch_ok hf).2
  obtain ⟨hx, hb, hml, hown, hts, hin, hK, h0, hX⟩ := id hC
  unfold m_okb at hok
  simp only [Bool.and_eq_true] at hok
  obtain ⟨hok1, hok2⟩ := hok
  dsimp only at hok1 hok2 hl hlen hP hS hk hb1 hb2
  have hdec := of_decide_eq_true hok1
  dsimp only [m_len] at hdec
  refine va_iast hx hb hK hP m_cw_D hS q 0 (m_cw_at hw) rfl (m_vin h1 h2 h3) hdec (fun H1 locs1 hP1 _ hS1 => ?_)
  have hP2 : va_P D vwCl (m_cw N0 aI 0 (w.set q (.inl (0, v, .inl (m_up f j u))))) H1 := by
    rw [m_cw_set, Nat.zero_add]
    show va_P D vwCl ((m_cw N0 aI 0 w).set q (N0 + q, .inl (aI 0, v, .inl (fun i : Nat => Int32.ofInt (m_up f j u (i : Int)))))) H1
    rw [m_nat h1 h2 h3] at hP1
    rw [m_up_cv f u h1]
    exact hP1
  exact K p l e s m args below meth c N0 aI D Qf hC hF H1 locs1 ls k n hl hlen hP2 hS1 (by rw [hk, List.length_set]) hb1 hb2

theorem m_chr {u : Int} (h4 : 0 ≤ u) (h5 : u < 65536) : vp_nar .char (Int32.ofInt u) = Int32.ofInt u := by
  have e : Int32.ofInt u = nI u.toNat := by
    rw [nI, ← Int32.ofInt_eq_ofNat, Int.toNat_of_nonneg h4]
  rw [e]
  have h := (pk_charN (q := u.toNat) (by omega)).1
  unfold vp_nar
  rw [h]
set_option maxHeartbeats 4000000 in
set_option maxRecDepth 100000 in
theorem m_cast {X : Nat × Nat × (Nat → Int32)} {mi pc x y : Nat} {z : Int} {L : List (Option mPV)} {S : List mPV} {w : mPW} {bc bs : Nat} {Q : Option mPV → mPW → Prop} {j u : Int} {q v : Nat} {f : Int → Int} (hf : m_fetch mi pc = some (pc, .castore, x, y, z)) (hw : w[q]? = some (.inl (1, v, .inl f))) (h1 : 0 ≤ j) (h2 : j < v) (h3 : v < 2147483648) (h4 : 0 ≤ u) (h5 : u < 65536) (K : m_Sem X mi (pc + 1, L, S, w.set q (.inl (1, v, .inl (m_up f j u))), bc, bs) Q) : m_Sem X mi (pc, L, .inl u :: .inl j :: .inr (.inl q) :: S, w, bc, bs) Q := by
  intro p l e s m args below meth c N0 aI D Qf hC hF H locs ls k n hl hlen hP hS hk hb1 hb2
  have hok := (m_fetch_ok hf).2
  obtain ⟨hx, hb, hml, hown, hts, hin, hK, h0, hX⟩ := id hC
  unfold m_okb at hok
  simp only [Bool.and_eq_true] at hok
  obtain ⟨hok1, hok2⟩ := hok
  dsimp only at hok1 hok2 hl hlen hP hS hk hb1 hb2
  have hdec := of_decide_eq_true hok1
  dsimp only [m_len] at hdec
  refine va_cast hx hb hK hP m_cw_D hS q 1 (m_cw_at hw) rfl (m_vin h1 h2 h3) hdec (fun H1 locs1 hP1 _ hS1 => ?_)
  have hP2 : va_P D vwCl (m_cw N0 aI 0 (w.set q (.inl (1, v, .inl (m_up f j u))))) H1 := by
    rw [m_cw_set, Nat.zero_add]
    show va_P D vwCl ((m_cw N0 aI 0 w).set q (N0 + q, .inl (aI 1, v, .inl (fun i : Nat => Int32.ofInt (m_up f j u (i : Int)))))) H1
    rw [m_nat h1 h2 h3] at hP1
    rw [show vp_nar .char (Int32.ofInt u) = Int32.ofInt u from m_chr h4 h5] at hP1
    rw [m_up_cv f u h1]
    exact hP1
  exact K p l e s m args below meth c N0 aI D Qf hC hF H1 locs1 ls k n hl hlen hP2 hS1 (by rw [hk, List.length_set]) hb1 hb2

set_option maxHeartbeats 4000000 in
set_option maxRecDepth 100000 in
theorem m_last {X : Nat × Nat × (Nat → Int32)} {mi pc x y : Nat} {z : Int} {L : List (Option mPV)} {S : List mPV} {w : mPW} {bc bs : Nat} {Q : Option mPV → mPW → Prop} {j : Int} {u : Int64} {q v : Nat} {f : Nat → Int64} (hf : m_fetch mi pc = some (pc, .lastore, x, y, z)) (hw : w[q]? = some (.inl (2, v, .inr f))) (h1 : 0 ≤ j) (h2 : j < v) (h3 : v < 2147483648) (K : m_Sem X mi (pc + 1, L, S, w.set q (.inl (2, v, .inr (vp_updL f j.toNat u))), bc, bs) Q) : m_Sem X mi (pc, L, .inr (.inr (.long u)) :: .inl j :: .inr (.inl q) :: S, w, bc, bs) Q := by
  intro p l e s m args below meth c N0 aI D Qf hC hF H locs ls k n hl hlen hP hS hk hb1 hb2
  have hok := (m_fetch_ok hf).2
  obtain ⟨hx, hb, hml, hown, hts, hin, hK, h0, hX⟩ := id hC
  unfold m_okb at hok
  simp only [Bool.and_eq_true] at hok
  obtain ⟨hok1, hok2⟩ := hok
  dsimp only at hok1 hok2 hl hlen hP hS hk hb1 hb2
  have hdec := of_decide_eq_true hok1
  dsimp only [m_len] at hdec
  refine va_last hx hb hK hP m_cw_D hS q 2 (m_cw_at hw) rfl (m_vin h1 h2 h3) hdec (fun H1 locs1 hP1 _ hS1 => ?_)
  have hP2 : va_P D vwCl (m_cw N0 aI 0 (w.set q (.inl (2, v, .inr (vp_updL f j.toNat u))))) H1 := by
    rw [m_cw_set, Nat.zero_add]
    show va_P D vwCl ((m_cw N0 aI 0 w).set q (N0 + q, .inl (aI 2, v, .inr (.inl (vp_updL f j.toNat u))))) H1
    rw [m_nat h1 h2 h3] at hP1
    exact hP1
  exact K p l e s m args below meth c N0 aI D Qf hC hF H1 locs1 ls k n hl hlen hP2 hS1 (by rw [hk, List.length_set]) hb1 hb2

set_option maxHeartbeats 4000000 in
set_option maxRecDepth 100000 in
theorem m_div {X : Nat × Nat × (Nat → Int32)} {mi pc x y : Nat} {z : Int} {L : List (Option mPV)} {S : List mPV} {w : mPW} {bc bs : Nat} {Q : Option mPV → mPW → Prop} {a b : Int} (hf : m_fetch mi pc = some (pc, .idiv, x, y, z)) (h1 : 0 ≤ a) (h2 : a < 2147483648) (h3 : 0 < b) (h4 : b < 2147483648) (K : m_Sem X mi (pc + 1, L, .inl (a / b) :: S, w, bc, bs) Q) : m_Sem X mi (pc, L, .inl b :: .inl a :: S, w, bc, bs) Q := by
  intro p l e s m args below meth c N0 aI D Qf hC hF H locs ls k n hl hlen hP hS hk hb1 hb2
  have hok := (m_fetch_ok hf).2
  obtain ⟨hx, hb, hml, hown, hts, hin, hK, h0, hX⟩ := id hC
  unfold m_okb at hok
  simp only [Bool.and_eq_true] at hok
  obtain ⟨hok1, hok2⟩ := hok
  dsimp only at hok1 hok2 hl hlen hP hS hk hb1 hb2
  have hdec := of_decide_eq_true hok1
  dsimp only [m_len] at hdec
  have hne : ¬ Int32.ofInt b = 0 := by
    have h := m_R_eq (x := b) (y := 0) ⟨by omega, h4⟩ m_R_0
    rw [show Int32.ofInt 0 = 0 from rfl] at h
    rw [h]
    omega
  refine lv_idiv hx hb hdec hne ?_
  rw [← m_R_div h1 h2 h3 h4]
  exact K p l e s m args below meth c N0 aI D Qf hC hF H locs ls k n hl hlen hP hS hk hb1 hb2

set_option maxHeartbeats 4000000 in
set_option maxRecDepth 100000 in
theorem m_rem {X : Nat × Nat × (Nat → Int32)} {mi pc x y : Nat} {z : Int} {L : List (Option mPV)} {S : List mPV} {w : mPW} {bc bs : Nat} {Q : Option mPV → mPW → Prop} {a b : Int} (hf : m_fetch mi pc = some (pc, .irem, x, y, z)) (h1 : 0 ≤ a) (h2 : a < 2147483648) (h3 : 0 < b) (h4 : b < 2147483648) (K : m_Sem X mi (pc + 1, L, .inl (a % b) :: S, w, bc, bs) Q) : m_Sem X mi (pc, L, .inl b :: .inl a :: S, w, bc, bs) Q := by
  intro p l e s m args below meth c N0 aI D Qf hC hF H locs ls k n hl hlen hP hS hk hb1 hb2
  have hok := (m_fetch_ok hf).2
  obtain ⟨hx, hb, hml, hown, hts, hin, hK, h0, hX⟩ := id hC
  unfold m_okb at hok
  simp only [Bool.and_eq_true] at hok
  obtain ⟨hok1, hok2⟩ := hok
  dsimp only at hok1 hok2 hl hlen hP hS hk hb1 hb2
  have hdec := of_decide_eq_true hok1
  dsimp only [m_len] at hdec
  have hne : ¬ Int32.ofInt b = 0 := by
    have h := m_R_eq (x := b) (y := 0) ⟨by omega, h4⟩ m_R_0
    rw [show Int32.ofInt 0 = 0 from rfl] at h
    rw [h]
    omega
  refine lv_irem hx hb hdec hne ?_
  rw [← m_R_rem h1 h2 h3 h4]
  exact K p l e s m args below meth c N0 aI D Qf hC hF H locs ls k n hl hlen hP hS hk hb1 hb2

set_option maxHeartbeats 4000000 in
set_option maxRecDepth 100000 in
theorem m_i2c {X : Nat × Nat × (Nat → Int32)} {mi pc x y : Nat} {z : Int} {L : List (Option mPV)} {S : List mPV} {w : mPW} {bc bs : Nat} {Q : Option mPV → mPW → Prop} {a : Int} (hf : m_fetch mi pc = some (pc, .i2c, x, y, z)) (h1 : 0 ≤ a) (h2 : a < 65536) (K : m_Sem X mi (pc + 1, L, .inl a :: S, w, bc, bs) Q) : m_Sem X mi (pc, L, .inl a :: S, w, bc, bs) Q := by
  intro p l e s m args below meth c N0 aI D Qf hC hF H locs ls k n hl hlen hP hS hk hb1 hb2
  have hok := (m_fetch_ok hf).2
  obtain ⟨hx, hb, hml, hown, hts, hin, hK, h0, hX⟩ := id hC
  unfold m_okb at hok
  simp only [Bool.and_eq_true] at hok
  obtain ⟨hok1, hok2⟩ := hok
  dsimp only at hok1 hok2 hl hlen hP hS hk hb1 hb2
  have hdec := of_decide_eq_true hok1
  dsimp only [m_len] at hdec
  have hv : ((Int32.ofInt a).toUInt32 % 65536).toInt32 = Int32.ofInt a := by
    have e : Int32.ofInt a = nI a.toNat := by
      rw [nI, ← Int32.ofInt_eq_ofNat, Int.toNat_of_nonneg h1]
    rw [pk_char, e, pk_tn (by omega), Nat.mod_eq_of_lt (by omega)]
  refine lv_i2c hx hb hdec hv ?_
  exact K p l e s m args below meth c N0 aI D Qf hC hF H locs ls k n hl hlen hP hS hk hb1 hb2

set_option maxHeartbeats 4000000 in
set_option maxRecDepth 100000 in
theorem m_fdiv {X : Nat × Nat × (Nat → Int32)} {mi pc x y : Nat} {z : Int} {L : List (Option mPV)} {S : List mPV} {w : mPW} {bc bs : Nat} {Q : Option mPV → mPW → Prop} {a b v : UInt32} (hf : m_fetch mi pc = some (pc, .fdiv, x, y, z)) (hv : FP.fdiv a b = v) (hn : vf_n32 v) (K : m_Sem X mi (pc + 1, L, .inr (.inr (.float v)) :: S, w, bc, bs) Q) : m_Sem X mi (pc, L, .inr (.inr (.float b)) :: .inr (.inr (.float a)) :: S, w, bc, bs) Q := by
  intro p l e s m args below meth c N0 aI D Qf hC hF H locs ls k n hl hlen hP hS hk hb1 hb2
  have hok := (m_fetch_ok hf).2
  obtain ⟨hx, hb, hml, hown, hts, hin, hK, h0, hX⟩ := id hC
  unfold m_okb at hok
  simp only [Bool.and_eq_true] at hok
  obtain ⟨hok1, hok2⟩ := hok
  dsimp only at hok1 hok2 hl hlen hP hS hk hb1 hb2
  have hdec := of_decide_eq_true hok1
  dsimp only [m_len] at hdec
  subst hv
  refine lv_fdiv hx hb hdec hn ?_
  exact K p l e s m args below meth c N0 aI D Qf hC hF H locs ls k n hl hlen hP hS hk hb1 hb2

set_option maxHeartbeats 4000000 in
set_option maxRecDepth 100000 in
theorem m_fmul {X : Nat × Nat × (Nat → Int32)} {mi pc x y : Nat} {z : Int} {L : List (Option mPV)} {S : List mPV} {w : mPW} {bc bs : Nat} {Q : Option mPV → mPW → Prop} {a b v : UInt32} (hf : m_fetch mi pc = some (pc, .fmul, x, y, z)) (hv : FP.fmul a b = v) (hn : vf_n32 v) (K : m_Sem X mi (pc + 1, L, .inr (.inr (.float v)) :: S, w, bc, bs) Q) : m_Sem X mi (pc, L, .inr (.inr (.float b)) :: .inr (.inr (.float a)) :: S, w, bc, bs) Q := by
  intro p l e s m args below meth c N0 aI D Qf hC hF H locs ls k n hl hlen hP hS hk hb1 hb2
  have hok := (m_fetch_ok hf).2
  obtain ⟨hx, hb, hml, hown, hts, hin, hK, h0, hX⟩ := id hC
  unfold m_okb at hok
  simp only [Bool.and_eq_true] at hok
  obtain ⟨hok1, hok2⟩ := hok
  dsimp only at hok1 hok2 hl hlen hP hS hk hb1 hb2
  have hdec := of_decide_eq_true hok1
  dsimp only [m_len] at hdec
  subst hv
  refine lv_fmul hx hb hdec hn ?_
  exact K p l e s m args below meth c N0 aI D Qf hC hF H locs ls k n hl hlen hP hS hk hb1 hb2

set_option maxHeartbeats 4000000 in
set_option maxRecDepth 100000 in
theorem m_fsub {X : Nat × Nat × (Nat → Int32)} {mi pc x y : Nat} {z : Int} {L : List (Option mPV)} {S : List mPV} {w : mPW} {bc bs : Nat} {Q : Option mPV → mPW → Prop} {a b v : UInt32} (hf : m_fetch mi pc = some (pc, .fsub, x, y, z)) (hv : FP.fsub a b = v) (hn : vf_n32 v) (K : m_Sem X mi (pc + 1, L, .inr (.inr (.float v)) :: S, w, bc, bs) Q) : m_Sem X mi (pc, L, .inr (.inr (.float b)) :: .inr (.inr (.float a)) :: S, w, bc, bs) Q := by
  intro p l e s m args below meth c N0 aI D Qf hC hF H locs ls k n hl hlen hP hS hk hb1 hb2
  have hok := (m_fetch_ok hf).2
  obtain ⟨hx, hb, hml, hown, hts, hin, hK, h0, hX⟩ := id hC
  unfold m_okb at hok
  simp only [Bool.and_eq_true] at hok
  obtain ⟨hok1, hok2⟩ := hok
  dsimp only at hok1 hok2 hl hlen hP hS hk hb1 hb2
  have hdec := of_decide_eq_true hok1
  dsimp only [m_len] at hdec
  subst hv
  refine lv_fsub hx hb hdec hn ?_
  exact K p l e s m args below meth c N0 aI D Qf hC hF H locs ls k n hl hlen hP hS hk hb1 hb2

set_option maxHeartbeats 4000000 in
set_option maxRecDepth 100000 in
theorem m_tabIn {X : Nat × Nat × (Nat → Int32)} {mi pc x y : Nat} {z : Int} {L : List (Option mPV)} {S : List mPV} {w : mPW} {bc bs : Nat} {Q : Option mPV → mPW → Prop} {df lo hi : Int} {offs : Array Int} {a off : Int} {tgt : Nat} (hf : m_fetch mi pc = some (pc, .tableswitch df lo hi offs, x, y, z)) (ha : m_R a) (h1 : lo ≤ a) (h2 : a ≤ hi) (ho : offs[(a - lo).toNat]? = some off) (ht : (pc : Int) + off = (tgt : Int)) (K : m_Sem X mi (tgt, L, S, w, bc, bs) Q) : m_Sem X mi (pc, L, .inl a :: S, w, bc, bs) Q := by
  intro p l e s m args below meth c N0 aI D Qf hC hF H locs ls k n hl hlen hP hS hk hb1 hb2
  have hok := (m_fetch_ok hf).2
  obtain ⟨hx, hb, hml, hown, hts, hin, hK, h0, hX⟩ := id hC
  unfold m_okb at hok
  simp only [Bool.and_eq_true] at hok
  obtain ⟨hok1, hok2⟩ := hok
  dsimp only at hok1 hok2 hl hlen hP hS hk hb1 hb2
  obtain ⟨len, hdec⟩ : ∃ len, decode (m_cd mi) pc = .ok (.tableswitch df lo hi offs, len) := by
    split at hok1
    next i len h =>
      have h2 := of_decide_eq_true hok1
      rw [h2] at h
      exact ⟨len, h⟩
    next => cases hok1
  refine lv_tableIn hx hb hdec (by rw [m_R_to ha]; omega) (by rw [m_R_to ha]; omega) (by rw [m_R_to ha]; exact ho) ht ?_
  exact K p l e s m args below meth c N0 aI D Qf hC hF H locs ls k n hl hlen hP hS hk hb1 hb2

set_option maxHeartbeats 4000000 in
set_option maxRecDepth 100000 in
theorem m_tabOut {X : Nat × Nat × (Nat → Int32)} {mi pc x y : Nat} {z : Int} {L : List (Option mPV)} {S : List mPV} {w : mPW} {bc bs : Nat} {Q : Option mPV → mPW → Prop} {df lo hi : Int} {offs : Array Int} {a : Int} {tgt : Nat} (hf : m_fetch mi pc = some (pc, .tableswitch df lo hi offs, x, y, z)) (ha : m_R a) (h1 : a < lo ∨ hi < a) (ht : (pc : Int) + df = (tgt : Int)) (K : m_Sem X mi (tgt, L, S, w, bc, bs) Q) : m_Sem X mi (pc, L, .inl a :: S, w, bc, bs) Q := by
  intro p l e s m args below meth c N0 aI D Qf hC hF H locs ls k n hl hlen hP hS hk hb1 hb2
  have hok := (m_fetch_ok hf).2
  obtain ⟨hx, hb, hml, hown, hts, hin, hK, h0, hX⟩ := id hC
  unfold m_okb at hok
  simp only [Bool.and_eq_true] at hok
  obtain ⟨hok1, hok2⟩ := hok
  dsimp only at hok1 hok2 hl hlen hP hS hk hb1 hb2
  obtain ⟨len, hdec⟩ : ∃ len, decode (m_cd mi) pc = .ok (.tableswitch df lo hi offs, len) := by
    split at hok1
    next i len h =>
      have h2 := of_decide_eq_true hok1
      rw [h2] at h
      exact ⟨len, h⟩
    next => cases hok1
  refine lv_tableOut hx hb hdec (by rw [m_R_to ha]; exact h1) ht ?_
  exact K p l e s m args below meth c N0 aI D Qf hC hF H locs ls k n hl hlen hP hS hk hb1 hb2

set_option maxHeartbeats 4000000 in
set_option maxRecDepth 100000 in
theorem m_ret1 {X : Nat × Nat × (Nat → Int32)} {mi pc x y : Nat} {z : Int} {L : List (Option mPV)} {w : mPW} {bc bs : Nat} {Q : Option mPV → mPW → Prop} {a : Int} (hf : m_fetch mi pc = some (pc, .ireturn, x, y, z)) (hr : m_rok mi (some (.inl a))) (hc : bc = 0) (K : Q (some (.inl a)) w) : m_Sem X mi (pc, L, [.inl a], w, bc, bs) Q := by
  intro p l e s m args below meth c N0 aI D Qf hC hF H locs ls k n hl hlen hP hS hk hb1 hb2
  have hok := (m_fetch_ok hf).2
  obtain ⟨hx, hb, hml, hown, hts, hin, hK, h0, hX⟩ := id hC
  unfold m_okb at hok
  simp only [Bool.and_eq_true] at hok
  obtain ⟨hok1, hok2⟩ := hok
  dsimp only at hok1 hok2 hl hlen hP hS hk hb1 hb2
  have hdec := of_decide_eq_true hok1
  dsimp only [m_len] at hdec
  subst hc
  have hk2 : k = (m_rm mi).cells := by omega
  subst hk2
  exact hF (some (.inl a)) w H locs n pc ls K hr hP hS hk (by omega) hdec

set_option maxHeartbeats 4000000 in
set_option maxRecDepth 100000 in
theorem m_ret0 {X : Nat × Nat × (Nat → Int32)} {mi pc x y : Nat} {z : Int} {L : List (Option mPV)} {w : mPW} {bc bs : Nat} {Q : Option mPV → mPW → Prop} (hf : m_fetch mi pc = some (pc, .return_, x, y, z)) (hr : m_rok mi none) (hc : bc = 0) (K : Q none w) : m_Sem X mi (pc, L, [], w, bc, bs) Q := by
  intro p l e s m args below meth c N0 aI D Qf hC hF H locs ls k n hl hlen hP hS hk hb1 hb2
  have hok := (m_fetch_ok hf).2
  obtain ⟨hx, hb, hml, hown, hts, hin, hK, h0, hX⟩ := id hC
  unfold m_okb at hok
  simp only [Bool.and_eq_true] at hok
  obtain ⟨hok1, hok2⟩ := hok
  dsimp only at hok1 hok2 hl hlen hP hS hk hb1 hb2
  have hdec := of_decide_eq_true hok1
  dsimp only [m_len] at hdec
  subst hc
  have hk2 : k = (m_rm mi).cells := by omega
  subst hk2
  exact hF none w H locs n pc ls K hr hP hS hk (by omega) hdec


def m_sub : List (Option mPV) → List (Option mPV) → Prop
  | [], [] => True
  | none :: a, _ :: b => m_sub a b
  | some v :: a, o :: b => o = some v ∧ m_sub a b
  | _, _ => False
theorem m_sub_len : ∀ {a b : List (Option mPV)}, m_sub a b → a.length = b.length
  | [], [], _ => rfl
  | none :: a, _ :: b, h => congrArg Nat.succ (m_sub_len (a := a) (b := b) h)
  | some v :: a, o :: b, h => congrArg Nat.succ (m_sub_len (a := a) (b := b) h.2)
  | [], _ :: _, h => h.elim
  | none :: _, [], h => h.elim
  | some _ :: _, [], h => h.elim
theorem m_sub_as {N0 : Nat} : ∀ {a b : List (Option mPV)} {k : Nat}, m_sub a b → ∀ q ∈ m_as N0 k a, q ∈ m_as N0 k b
  | [], [], _, _ => fun _ h => h
  | none :: a, o :: b, k, h => fun q hq => m_as_cons.mpr (Or.inr (m_sub_as (a := a) (b := b) h q hq))
  | some v :: a, o :: b, k, h => fun q hq => by
    rcases m_as_cons.mp hq with ⟨v', h1, h2⟩ | hq
    · exact m_as_cons.mpr (Or.inl ⟨v', by rw [h.1]; exact h1, h2⟩)
    · exact m_as_cons.mpr (Or.inr (m_sub_as (a := a) (b := b) h.2 q hq))
  | [], _ :: _, _, h => h.elim
  | none :: _, [], _, h => h.elim
  | some _ :: _, [], _, h => h.elim

set_option maxHeartbeats 4000000 in
set_option maxRecDepth 100000 in
theorem m_weak {X : Nat × Nat × (Nat → Int32)} {mi pc : Nat} {L : List (Option mPV)} {S : List mPV} {w : mPW} {bc bs : Nat} {Q : Option mPV → mPW → Prop} (L' : List (Option mPV)) (h : m_sub L' L) (K : m_Sem X mi (pc, L', S, w, bc, bs) Q) : m_Sem X mi (pc, L, S, w, bc, bs) Q := by
  intro p l e s m args below meth c N0 aI D Qf hC hF H locs ls k n hl hlen hP hS hk hb1 hb2
  exact K p l e s m args below meth c N0 aI D Qf hC hF H locs ls k n (m_has_mono hl (m_sub_as h)) ((m_sub_len h).trans hlen) hP hS hk hb1 hb2
theorem m_cons {X : Nat × Nat × (Nat → Int32)} {mi : Nat} {ps : mPS} {Q Q' : Option mPV → mPW → Prop} (K : m_Sem X mi ps Q) (h : ∀ r w, Q r w → Q' r w) : m_Sem X mi ps Q' := by
  intro p l e s m args below meth c N0 aI D Qf hC hF H locs ls k n hl hlen hP hS hk hb1 hb2
  exact K p l e s m args below meth c N0 aI D Qf hC (fun r w H locs n pc ls hq => hF r w H locs n pc ls (h r w hq)) H locs ls k n hl hlen hP hS hk hb1 hb2

set_option maxHeartbeats 4000000 in
set_option maxRecDepth 100000 in
theorem m_slen {b Ls : Nat} {xs : Nat → Int32} {pc x y : Nat} {z : Int} {L : List (Option mPV)} {S : List mPV} {w : mPW} {bc bs : Nat} {Q : Option mPV → mPW → Prop} (hf : m_fetch 0 pc = some (pc, .arraylength, x, y, z)) (K : m_Sem (b, Ls, xs) 0 (pc + 1, L, .inl (Ls : Int) :: S, w, bc, bs) Q) : m_Sem (b, Ls, xs) 0 (pc, L, .inr (.inr (.ref b)) :: S, w, bc, bs) Q := by
  intro p l e s m args below meth c N0 aI D Qf hC hF H locs ls k n hl hlen hP hS hk hb1 hb2
  have hok := (m_fetch_ok hf).2
  obtain ⟨hx, hb, hml, hown, hts, hin, hK, h0, hX⟩ := id hC
  unfold m_okb at hok
  simp only [Bool.and_eq_true] at hok
  obtain ⟨hok1, hok2⟩ := hok
  dsimp only at hok1 hok2 hl hlen hP hS hk hb1 hb2
  have hdec := of_decide_eq_true hok1
  dsimp only [m_len] at hdec
  obtain ⟨hX1, hX2⟩ := hX rfl
  dsimp only at hX1 hX2
  refine va_slen hx hb hX1 (by omega) (show ¬ N0 ≤ b by omega) hS hdec ?_
  rw [show Int32.ofNat Ls = Int32.ofInt (Ls : Int) from Int32.ofInt_eq_ofNat.symm]
  exact K p l e s m args below meth c N0 aI D Qf hC hF H locs ls k n hl hlen hP hS hk hb1 hb2

set_option maxHeartbeats 4000000 in
set_option maxRecDepth 100000 in
theorem m_sld {b Ls : Nat} {xs : Nat → Int32} {pc x y : Nat} {z : Int} {L : List (Option mPV)} {S : List mPV} {w : mPW} {bc bs : Nat} {Q : Option mPV → mPW → Prop} {j : Int} (hf : m_fetch 0 pc = some (pc, .iaload, x, y, z)) (h1 : 0 ≤ j) (h2 : j < Ls) (h3 : Ls < 2147483648) (K : m_Sem (b, Ls, xs) 0 (pc + 1, L, .inl (xs j.toNat).toInt :: S, w, bc, bs) Q) : m_Sem (b, Ls, xs) 0 (pc, L, .inl j :: .inr (.inr (.ref b)) :: S, w, bc, bs) Q := by
  intro p l e s m args below meth c N0 aI D Qf hC hF H locs ls k n hl hlen hP hS hk hb1 hb2
  have hok := (m_fetch_ok hf).2
  obtain ⟨hx, hb, hml, hown, hts, hin, hK, h0, hX⟩ := id hC
  unfold m_okb at hok
  simp only [Bool.and_eq_true] at hok
  obtain ⟨hok1, hok2⟩ := hok
  dsimp only at hok1 hok2 hl hlen hP hS hk hb1 hb2
  have hdec := of_decide_eq_true hok1
  dsimp only [m_len] at hdec
  obtain ⟨hX1, hX2⟩ := hX rfl
  dsimp only at hX1 hX2
  refine va_sld hx hb hX1 (by omega) (show ¬ N0 ≤ b by omega) hS (m_vin h1 h2 h3) hdec ?_
  rw [m_nat h1 h2 h3]
  have hv : xs j.toNat = Int32.ofInt (xs j.toNat).toInt := (Int32.ofInt_toInt _).symm
  rw [hv]
  exact K p l e s m args below meth c N0 aI D Qf hC hF H locs ls k n hl hlen hP hS hk hb1 hb2

set_option maxHeartbeats 4000000 in
set_option maxRecDepth 100000 in
theorem m_frb {X : Nat × Nat × (Nat → Int32)} {mi pc y : Nat} {z : Int} {L : List (Option mPV)} {S : List mPV} {w : mPW} {bc bs : Nat} {Q : Option mPV → mPW → Prop} {i : Nat} {a : UInt32} (hf : m_fetch mi pc = some (pc, .invokestatic i, 1002, y, z)) (hr : Nat.ble 1 (m_rm mi).frames = true) (hr2 : Nat.ble ((S.map m_cat).sum + 15) (m_rm mi).locals = true) (K : m_Sem X mi (pc + 3, L, .inl a.toInt32.toInt :: S, w, bc, bs) Q) : m_Sem X mi (pc, L, .inr (.inr (.float a)) :: S, w, bc, bs) Q := by
  intro p l e s m args below meth c N0 aI D Qf hC hF H locs ls k n hl hlen hP hS hk hb1 hb2
  have hok := (m_fetch_ok hf).2
  obtain ⟨hx, hb, hml, hown, hts, hin, hK, h0, hX⟩ := id hC
  unfold m_okb at hok
  simp only [Bool.and_eq_true] at hok
  obtain ⟨hok1, hok2⟩ := hok
  dsimp only at hok1 hok2 hl hlen hP hS hk hb1 hb2
  have hdec := of_decide_eq_true hok1
  dsimp only [m_len] at hdec
  have hlk := m_mths_w _ (of_decide_eq_true hok2.1)
  refine vn_f2i hx hb (by rw [hml]; exact hl.1.symm) hown (hts _ hlk) (hts _ m_frb_w.1) (hts _ m_frb_w.2.1) (hts _ m_frb_w.2.2) (Nat.le_of_ble_eq_true hr) (by rw [m_cats]; exact Nat.le_of_ble_eq_true hr2) hdec ?_
  have hv : a.toInt32 = Int32.ofInt a.toInt32.toInt := (Int32.ofInt_toInt _).symm
  rw [hv]
  exact K p l e s m args below meth c N0 aI D Qf hC hF H locs ls k n hl hlen hP hS hk hb1 hb2


def m_cpy (f g : Int → Int) (sp dp n : Int) : Int → Int := fun k => if dp ≤ k ∧ k < dp + n then f (sp + (k - dp)) else g k
theorem m_cpy_cv (f g : Int → Int) {sp dp n : Int} (h1 : 0 ≤ sp) (h2 : 0 ≤ dp) (h3 : 0 ≤ n) : (fun i : Nat => Int32.ofInt (m_cpy f g sp dp n (i : Int))) = va_cpy (fun i : Nat => Int32.ofInt (f (i : Int))) (fun i : Nat => Int32.ofInt (g (i : Int))) sp.toNat dp.toNat n.toNat := by
  funext i
  unfold m_cpy va_cpy
  by_cases h : dp ≤ (i : Int) ∧ (i : Int) < dp + n
  · have h' : dp.toNat ≤ i ∧ i < dp.toNat + n.toNat := by omega
    rw [if_pos h, if_pos h']
    show _ = Int32.ofInt (f ((sp.toNat + (i - dp.toNat) : Nat) : Int))
    rw [show ((sp.toNat + (i - dp.toNat) : Nat) : Int) = sp + ((i : Int) - dp) by omega]
  · have h' : ¬ (dp.toNat ≤ i ∧ i < dp.toNat + n.toNat) := by omega
    rw [if_neg h, if_neg h']

set_option maxHeartbeats 4000000 in
set_option maxRecDepth 100000 in
theorem m_acp {X : Nat × Nat × (Nat → Int32)} {mi pc y : Nat} {z : Int} {L : List (Option mPV)} {S : List mPV} {w : mPW} {bc bs : Nat} {Q : Option mPV → mPW → Prop} {i : Nat} {sp dp v : Int} {q q' a b : Nat} {f g : Int → Int} (hf : m_fetch mi pc = some (pc, .invokestatic i, 1001, y, z)) (hw : w[q]? = some (.inl (0, a, .inl f))) (hw' : w[q']? = some (.inl (0, b, .inl g))) (h1 : 0 ≤ sp) (h2 : 0 ≤ dp) (h3 : 0 ≤ v) (h4 : sp + v ≤ a) (h5 : dp + v ≤ b) (h6 : a < 2147483648) (h7 : b < 2147483648) (hr : Nat.ble 1 (m_rm mi).frames = true) (hr2 : Nat.ble ((S.map m_cat).sum + 18) (m_rm mi).locals = true) (K : m_Sem X mi (pc + 3, L, S, w.set q' (.inl (0, b, .inl (m_cpy f g sp dp v))), bc, bs) Q) : m_Sem X mi (pc, L, .inl v :: .inl dp :: .inr (.inl q') :: .inl sp :: .inr (.inl q) :: S, w, bc, bs) Q := by
  intro p l e s m args below meth c N0 aI D Qf hC hF H locs ls k n hl hlen hP hS hk hb1 hb2
  have hok := (m_fetch_ok hf).2
  obtain ⟨hx, hb, hml, hown, hts, hin, hK, h0, hX⟩ := id hC
  unfold m_okb at hok
  simp only [Bool.and_eq_true] at hok
  obtain ⟨hok1, hok2⟩ := hok
  dsimp only at hok1 hok2 hl hlen hP hS hk hb1 hb2
  have hdec := of_decide_eq_true hok1
  dsimp only [m_len] at hdec
  have hlk := m_mths_w _ (of_decide_eq_true hok2.1)
  have nn : ∀ u : Int, 0 ≤ u → m_R u → ¬ Int32.ofInt u < 0 := by
    intro u hu hR h
    have h8 := (m_R_lt hR m_R_0).mp h
    omega
  have R1 : m_R sp := ⟨by omega, by omega⟩
  have R2 : m_R dp := ⟨by omega, by omega⟩
  have R3 : m_R v := ⟨by omega, by omega⟩
  have hnw : nativeFrameWords "java/lang/System" "arraycopy" 5 ≤ 7 := by decide
  have hr2 := Nat.le_of_ble_eq_true hr2
  refine va_copyi hx hb (by rw [hml]; exact hl.1.symm) hown (hts _ hlk) (hts _ m_acp_w.1) (hts _ m_acp_w.2.1) (hts _ m_acp_w.2.2) hK hP m_cw_D hS q q' 0 0 (m_cw_at hw) (m_cw_at hw') rfl rfl rfl (nn sp h1 R1) (nn dp h2 R2) (nn v h3 R3) (by rw [m_R_nat R1, m_R_nat R3]; omega) (by rw [m_R_nat R2, m_R_nat R3]; omega) (fun _ _ => rfl) (Nat.le_of_ble_eq_true hr) (by rw [m_cats]; omega) hdec (fun H1 locs1 hP1 _ hS1 => ?_)
  have hP2 : va_P D vwCl (m_cw N0 aI 0 (w.set q' (.inl (0, b, .inl (m_cpy f g sp dp v))))) H1 := by
    rw [m_cw_set, Nat.zero_add]
    show va_P D vwCl ((m_cw N0 aI 0 w).set q' (N0 + q', .inl (aI 0, b, .inl (fun i : Nat => Int32.ofInt (m_cpy f g sp dp v (i : Int)))))) H1
    rw [m_cpy_cv f g h1 h2 h3]
    rw [m_R_nat R1, m_R_nat R2, m_R_nat R3] at hP1
    exact hP1
  exact K p l e s m args below meth c N0 aI D Qf hC hF H1 locs1 ls k n hl hlen hP2 hS1 (by rw [hk, List.length_set]) hb1 hb2


def m_ws (mi : Nat) : List Cond := Cond.code (m_y mi) (m_cd mi) (m_ml mi) (m_ret mi) :: lw_g
def m_Pc (N0 : Nat) (aI : Nat → ClassId) (D : va_G) (as : List mPV) (w : mPW) : Array Value → State → Prop := fun a U => a = (as.map (m_cv N0)).toArray ∧ va_P D vwCl (m_cw N0 aI 0 w) U.heap ∧ U.heap.size = N0 + w.length ∧ va_K D vwCl (m_tys aI) U
def m_Qc (mi N0 : Nat) (aI : Nat → ClassId) (D : va_G) (w : mPW) (Q : Option mPV → mPW → Prop) : Array Value → State → Outcome → State → Prop := fun _ st oc t => ∃ (r : Option mPV) (w' : mPW), Q r w' ∧ m_rok mi r ∧ oc = .returned (r.map (m_cv N0)) ∧ va_P D vwCl (m_cw N0 aI 0 w') t.heap ∧ w'.length = w.length + (m_rm mi).cells ∧ va_F (fun q => N0 ≤ q) st t
/-- a method's run from its entry -/
def m_Run (X : Nat × Nat × (Nat → Int32)) (mi : Nat) (as : List mPV) (w : mPW) (Q : Option mPV → mPW → Prop) : Prop := m_Sem X mi (0, m_ent as (m_ml mi), [], w, (m_rm mi).cells, (m_rm mi).slots) Q
theorem m_ofW {l : Launch} {y : MethodName} {ws ws' : List Cond} {rm : Room} {Pc : Array Value → State → Prop} {Qc : Array Value → State → Outcome → State → Prop} {mc ms : Nat} {free : Addr → Prop} {cc : ByteArray} {maxL : Nat} {ret : Option FieldType}
    (hy : plainFor y = true) (hw : ws = Cond.code y cc maxL ret :: ws')
    (body : ∀ p e s m args below meth c s₁, BodyLoose p l y (headSpec ws rm) cc maxL ret e s m args below meth c s₁ → c.maxLocals = maxL → Pc args s →
      W p l e (headSpec ws rm).room s m args below meth c s.heap [] 0 0 (MQ below Qc args s mc ms free) (entryFrame m args maxL)) : Met l y ws rm Pc Qc mc ms free := by
  refine MetFree.of_bodySF (code := cc) (maxLocals := maxL) (ret := ret) hy ?_ ?_
  · intro args s m h hn
    obtain ⟨meth, c, h1, h2, h3, h4, h5, h6, -, -⟩ := Cond.code_spec hn (atoms_spec (ws := ws) h _ (by rw [hw]; exact List.mem_cons_self))
    exact ⟨meth, c, h1, h2, h3, h4, h5, h6⟩
  · intro p e s m args below meth c s₁ B hml hP _
    have hh0 : s₁.heap = s.heap := by rw [B.state]; rfl
    obtain ⟨t, a1, o, b1, b2, b3⟩ := body p e s m args below meth c s₁ B hml hP s₁ hh0 (Stand.of_body B)
    exact ⟨t, o, a1, b1, b2, ⟨b3.1, b3.2⟩⟩
theorem m_blind {N0 : Nat} {aI : Nat → ClassId} {D : va_G} {as : List mPV} {w : mPW} : FrameBlind (m_Pc N0 aI D as w) := fun a U g mk h => ⟨h.1, h.2.1, h.2.2.1, va_K.moved (u := U) (U := U.calling g mk a) (Vm.Alike.refl U.vm) h.2.2.2⟩

set_option maxHeartbeats 4000000 in
set_option maxRecDepth 100000 in
theorem m_met {X : Nat × Nat × (Nat → Int32)} {mi : Nat} {as : List mPV} {w : mPW} {Q : Option mPV → mPW → Prop} (l : Launch) (N0 : Nat) (aI : Nat → ClassId) (D : va_G) (h0 : 0 < mi) (h1 : mi < 149) (hwd : m_words as ≤ m_ml mi) (hr : m_Run X mi as w Q) : Met l (m_y mi) (m_ws mi) (m_rm mi) (m_Pc N0 aI D as w) (m_Qc mi N0 aI D w Q) (m_rm mi).cells (m_rm mi).slots (fun q => N0 ≤ q) := by
  obtain ⟨g1, g2, g3, g4, g5, g6, ⟨g7, -, -, -⟩, g8⟩ := m_met_w mi h0 h1
  refine m_ofW (cc := m_cd mi) (maxL := m_ml mi) (ret := m_ret mi) g8 rfl ?_
  intro p e s m args below meth c s₁ B hml hv
  obtain ⟨rfl, hP, hz, hK⟩ := hv
  have hx := B.exec
  have hb := B.bytes
  have hret := B.returns
  have hts0 := atoms_spec (ws := m_ws mi) B.pre
  have hts : ∀ w ∈ lw_g, w.before _ s = true := fun w hw => hts0 w (List.mem_cons_of_mem _ hw)
  have hown : s.vm.findClass (m_y mi).cls = some m.cls := findClass_of_methodNamed B.named
  have hlocks := B.notSynchronized
  rw [g7] at hown
  obtain ⟨ls, hls, hl⟩ := m_entry (N0 := N0) as hwd
  rw [hls]
  refine hr p l e s m _ below meth c N0 aI D _ ⟨hx, hb, hml, hown, hts, fun hk => ?_, hK, by omega, fun h => absurd h (by omega)⟩ ?_ s.heap [] ls 0 0 hl (m_ent_len as _ hwd) hP va_S.rf (by show s.heap.size + 0 = N0 + w.length; omega) (by show 0 + (m_rm mi).cells = _; omega) (by show 0 + (m_rm mi).slots ≤ _; omega)
  · rw [(name_of_methodNamed B.named B.method).1]
    exact (g6 hk).1
  · intro r w' H locs n pc ls hq hrok hP' hS hk hn hdec
    refine W.widen (Nat.le_refl _) hn ?_
    have hend : ∀ t : State, t.heap = H → m_Qc mi N0 aI D w Q (as.map (m_cv N0)).toArray s (.returned (r.map (m_cv N0))) t := fun t ht => ⟨r, w', hq, hrok, rfl, by rw [ht]; exact hP', by omega, hS.F ht⟩
    rcases r with _ | v
    · have hr0 : m_ret mi = none := hrok
      exact W.vret hx hb (hret.trans hr0) (fun t ht _ => hend t ht) hS.2.2 hdec
    · rcases v with a | v
      · rcases (show m_ret mi = some .int ∨ (m_ret mi = some .boolean ∧ (a = 0 ∨ a = 1)) from hrok) with hr1 | ⟨hr1, ha⟩
        · exact W.iret hx hb (hret.trans hr1) (fun t ht _ => hend t ht) hS.2.2 hdec
        · exact W.zret hx hb (hret.trans hr1) (by rcases ha with rfl | rfl <;> rfl) (fun t ht _ => hend t ht) hS.2.2 hdec
      · exact absurd hrok id
theorem m_back {p : Program} {l : Launch} {e : Env} {R : Room} {s : State} {m : MethodId} {args : Array Value} {below : List Frame} {meth : Method} {c : Code} {H : Heap} {locs : List Loc} {k n mc ms pc mi N0 : Nat} {ls : Array Slot} {st0 rest : List Value} {aI : Nat → ClassId} {D : va_G} {w : mPW} {Q' : Option mPV → mPW → Prop} {a : Array Value} {Qf : State → Prop}
    (hr : va_Run p l e R s m args below meth c H locs k n mc ms (F0 m pc ls st0) rest (m_Qc mi N0 aI D w Q' a) (fun q => N0 ≤ q)) (hS : va_S (fun q => N0 ≤ q) s.heap H locs)
    (kk : ∀ (r : Option mPV) (w1 : mPW) (H1 : Heap) (locs1 : List Loc), Q' r w1 → m_rok mi r → va_P D vwCl (m_cw N0 aI 0 w1) H1 → va_S (fun q => N0 ≤ q) s.heap H1 locs1 → w1.length = w.length + (m_rm mi).cells → W p l e R s m args below meth c H1 locs1 (k + mc) (n + ms) Qf (F0 m (pc + 3) ls ((r.map (m_cv N0)).toList ++ rest))) : W p l e R s m args below meth c H locs k n Qf (F0 m pc ls st0) := by
  intro T hT X
  obtain ⟨v, st₀, t, T', L, h0, X', hL, e1, e2, ⟨r, w1, hq1, hrok, hv, hP1, hlen1, hz, hk⟩, st⟩ := hr T hT X
  have hv := Outcome.returned.inj hv
  subst hv
  rw [h0] at hz hk
  obtain ⟨t2, a1, b1⟩ := kk r w1 T'.heap (locs ++ L) hq1 hrok (by rw [e1]; exact hP1) ⟨Nat.le_trans hS.1 (by rw [e1]; exact hz), fun q h1 h2 => by rw [e1, hk q (Nat.lt_of_lt_of_le h1 hS.1) h2]; exact hS.2.1 q h1 h2, fun q hq => by
      rcases List.mem_append.mp hq with h | h
      · exact hS.2.2 q h
      · exact hL q h⟩ hlen1 T' rfl X'
  exact ⟨t2, st t2 a1, b1⟩
theorem m_good {ws : List Cond} (h : ∀ w ∈ ws, w ∈ lw_g) : GoodIn lw_g ws := fun w hw => ⟨h w hw, good_of_word (List.mem_filter.mp (h w hw)).2⟩
theorem m_ws_in {mi : Nat} (h0 : 0 < mi) (h1 : mi < 149) : ∀ w ∈ m_ws mi, w ∈ lw_g := by
  intro w hw
  rcases List.mem_cons.mp hw with rfl | hw
  · exact (m_met_w mi h0 h1).1
  · exact hw
/-- what a call asks of the room, by numbers -/
def m_cok (mi mi' na nw : Nat) (S : List mPV) (bc bs : Nat) : Bool :=
  (Nat.ble ((m_rm mi').frames + 1) (m_rm mi).frames && Nat.ble (8 + (m_ml mi' + 11) + (m_rm mi').locals) (m_rm mi).locals) && ((Nat.ble ((S.map m_cat).sum) 8 && Nat.ble nw (m_ml mi')) && ((Nat.beq na (m_np mi') && Nat.blt mi' 149) && (Nat.ble (m_rm mi').cells bc && Nat.ble (m_rm mi').slots bs)))
theorem m_cok_ok {mi mi' na nw : Nat} {S : List mPV} {bc bs : Nat} (h : m_cok mi mi' na nw S bc bs = true) : ((m_rm mi').frames + 1 ≤ (m_rm mi).frames ∧ 8 + (m_ml mi' + 11) + (m_rm mi').locals ≤ (m_rm mi).locals) ∧ (S.map m_cat).sum ≤ 8 ∧ nw ≤ m_ml mi' ∧ na = m_np mi' ∧ mi' < 149 ∧ (m_rm mi').cells ≤ bc ∧ (m_rm mi').slots ≤ bs := by
  unfold m_cok at h
  simp only [Bool.and_eq_true] at h
  obtain ⟨⟨h1, h2⟩, ⟨h3, h4⟩, ⟨h5, h6⟩, h7, h8⟩ := h
  exact ⟨⟨Nat.le_of_ble_eq_true h1, Nat.le_of_ble_eq_true h2⟩, Nat.le_of_ble_eq_true h3, Nat.le_of_ble_eq_true h4, Nat.eq_of_beq_eq_true h5, Nat.le_of_ble_eq_true h6, Nat.le_of_ble_eq_true h7, Nat.le_of_ble_eq_true h8⟩

set_option maxHeartbeats 4000000 in
set_option maxRecDepth 100000 in
theorem m_callV {X : Nat × Nat × (Nat → Int32)} {mi pc i mi' y : Nat} {z : Int} {L : List (Option mPV)} {S : List mPV} {w : mPW} {bc bs : Nat} {Q Q' : Option mPV → mPW → Prop} {q ci : Nat} {fs : List mPV} (as S' : List mPV) (hf : m_fetch mi pc = some (pc, .invokevirtual i, mi', y, z)) (hw : w[q]? = some (.inr (ci, fs))) (hc : ∃ r : vw_C, vwCl[ci]? = some r ∧ r.1 = (m_y mi').cls) (hst : S = as.reverse ++ .inr (.inl q) :: S') (hok0 : m_cok mi mi' as.length (m_words (.inr (.inl q) :: as)) S' bc bs = true) (C : m_Run X mi' (.inr (.inl q) :: as) w Q') (K : ∀ r w1, Q' r w1 → m_rok mi' r → m_Sem X mi (pc + 3, L, r.toList ++ S', w1, bc - (m_rm mi').cells, bs - (m_rm mi').slots) Q) : m_Sem X mi (pc, L, S, w, bc, bs) Q := by
  intro p l e s m args below meth c N0 aI D Qf hC hF H locs ls k n hl hlen hP hS hk hb1 hb2
  have hok := (m_fetch_ok hf).2
  obtain ⟨hx, hb, hml, hown, hts, hin, hK, h0, hX⟩ := id hC
  unfold m_okb at hok
  simp only [Bool.and_eq_true] at hok
  obtain ⟨hok1, hok2⟩ := hok
  dsimp only at hok1 hok2 hl hlen hP hS hk hb1 hb2
  have hdec := of_decide_eq_true hok1
  dsimp only [m_len] at hdec
  obtain ⟨hr1, hr2, hr3, hr4, hr5, hr6, hr7⟩ := m_cok_ok hok0
  have hlk := m_mths_w _ (of_decide_eq_true hok2.1)
  have hkd := of_decide_eq_true hok2.2
  have hkk : 0 < mi' ∧ m_kind mi' = 1 := ⟨hkd.2.1, hkd.2.2⟩
  have hlk : Cond.methodLink (m_own mi) i (m_y mi') ∈ lw_g := by
    have h : Cond.methodLink (m_own mi) i (m_yy mi') ∈ lw_g := hlk
    unfold m_yy at h
    rw [if_pos (by omega)] at h
    exact h
  obtain ⟨g1, g2, g3, g4, g5, g6, ⟨g7, g9, g10, g11⟩, g8⟩ := m_met_w mi' hkk.1 hr5
  intro T hT XT
  subst hT
  have hz := m_size (X := X) (mi := mi) h0 hP hS hk XT
  suffices key : W p l e (m_rm mi) s m args below meth c T.heap locs k n Qf (F0 m pc ls (S.map (m_cv N0))) from key T rfl XT
  have cw : CallW (m_rm mi) s args (m_own mi) (m_y mi').cls i (m_y mi') (m_cd mi') (m_ml mi') (m_ret mi') (m_ws mi') (m_rm mi') (m_rm mi').cells (m_rm mi').slots (m_np mi') := cwV (m_np mi') hts (m_good (fun w hw => by
    rcases List.mem_append.mp (show w ∈ ([.methodLink (m_own mi) i (m_y mi'), .instanceMethod (m_y mi'), .selects (m_y mi').cls (m_y mi') (m_y mi'), .initialized (m_y mi').cls] : List Cond) ++ m_ws mi' from hw) with hw | hw
    · simp only [List.mem_cons, List.not_mem_nil, or_false] at hw
      rcases hw with rfl | rfl | rfl | rfl
      · exact hlk
      · exact g4 (by omega)
      · exact g5 hkk.2
      · exact g2
    · exact m_ws_in hkk.1 hr5 w hw)) rfl rfl rfl ⟨rfl, g9, g10, g11⟩ hr1
  obtain ⟨rr, hc1, hc2⟩ := hc
  have hrecv := va_recv hK hP hc1 (m_cw_at hw)
  rw [hc2] at hrecv
  refine m_back (va_runV (b := N0 + q) (As := as.map (m_cv N0)) (rest := S'.map (m_cv N0)) ⟨hx, hb, hml, hown, hts⟩ (m_met l N0 aI D hkk.1 hr5 hr3 C) cw ⟨m_blind, hrecv, fun U hU hW => ⟨rfl, by rw [hU]; exact hP, by rw [hU]; exact hz, va_K.moved hW.alike hK⟩⟩ rfl (by rw [List.length_map]; exact hr4) hl.1 (by rw [hst]; show (List.map (m_cv N0) _) = _; simp [List.map_append, List.map_reverse, m_cv]) (by show 2 * 0 + _ ≤ 8; rw [m_cats]; omega) hdec ⟨by omega, by omega⟩) hS ?_
  intro r w1 H1 locs1 hq hrok hP1 hS1 hlen1
  have hst2 : (r.map (m_cv N0)).toList ++ S'.map (m_cv N0) = (r.toList ++ S').map (m_cv N0) := by cases r <;> rfl
  rw [hst2]
  exact K r w1 hq hrok p l e s m args below meth c N0 aI D Qf hC hF H1 locs1 ls (k + (m_rm mi').cells) (n + (m_rm mi').slots) hl hlen hP1 hS1 (by rw [hlen1]; omega) (by show k + (m_rm mi').cells + (bc - (m_rm mi').cells) = _; omega) (by show n + (m_rm mi').slots + (bs - (m_rm mi').slots) ≤ _; omega)

set_option maxHeartbeats 4000000 in
set_option maxRecDepth 100000 in
theorem m_callS {X : Nat × Nat × (Nat → Int32)} {mi pc i mi' y : Nat} {z : Int} {L : List (Option mPV)} {S : List mPV} {w : mPW} {bc bs : Nat} {Q Q' : Option mPV → mPW → Prop} (as S' : List mPV) (hf : m_fetch mi pc = some (pc, .invokestatic i, mi', y, z)) (hst : S = as.reverse ++ S') (hok0 : m_cok mi mi' as.length (m_words as) S' bc bs = true) (C : m_Run X mi' as w Q') (K : ∀ r w1, Q' r w1 → m_rok mi' r → m_Sem X mi (pc + 3, L, r.toList ++ S', w1, bc - (m_rm mi').cells, bs - (m_rm mi').slots) Q) : m_Sem X mi (pc, L, S, w, bc, bs) Q := by
  intro p l e s m args below meth c N0 aI D Qf hC hF H locs ls k n hl hlen hP hS hk hb1 hb2
  have hok := (m_fetch_ok hf).2
  obtain ⟨hx, hb, hml, hown, hts, hin, hK, h0, hX⟩ := id hC
  unfold m_okb at hok
  simp only [Bool.and_eq_true] at hok
  obtain ⟨hok1, hok2⟩ := hok
  dsimp only at hok1 hok2 hl hlen hP hS hk hb1 hb2
  have hdec := of_decide_eq_true hok1
  dsimp only [m_len] at hdec
  obtain ⟨hr1, hr2, hr3, hr4, hr5, hr6, hr7⟩ := m_cok_ok hok0
  have hlk := m_mths_w _ (of_decide_eq_true hok2.1)
  have hkd := of_decide_eq_true hok2.2
  have hkk : 0 < mi' ∧ m_kind mi' = 0 := by
    rcases hkd with h | h | h
    · omega
    · omega
    · exact ⟨h.2.1, h.2.2⟩
  have hlk : Cond.methodLink (m_own mi) i (m_y mi') ∈ lw_g := by
    have h : Cond.methodLink (m_own mi) i (m_yy mi') ∈ lw_g := hlk
    unfold m_yy at h
    rw [if_pos (by omega)] at h
    exact h
  obtain ⟨g1, g2, g3, g4, g5, g6, ⟨g7, g9, g10, g11⟩, g8⟩ := m_met_w mi' hkk.1 hr5
  intro T hT XT
  subst hT
  have hz := m_size (X := X) (mi := mi) h0 hP hS hk XT
  suffices key : W p l e (m_rm mi) s m args below meth c T.heap locs k n Qf (F0 m pc ls (S.map (m_cv N0))) from key T rfl XT
  have cw : CallB (m_rm mi) s args (m_own mi) i (m_y mi') (m_cd mi') (m_ml mi') (m_ret mi') (m_ws mi') (m_rm mi') (m_rm mi').cells (m_rm mi').slots (m_np mi') ∧ (Cond.static (m_y mi')).before args s = true := ⟨callB_of (m_np mi') hts (m_good (m_ws_in hkk.1 hr5)) rfl rfl rfl (hts _ g2) (hts _ hlk) ⟨g9, g10, g11⟩ hr1, hts _ (g3 hkk.2)⟩
  refine m_back (va_runS (As := as.map (m_cv N0)) (rest := S'.map (m_cv N0)) ⟨hx, hb, hml, hown, hts⟩ (m_met l N0 aI D hkk.1 hr5 hr3 C) cw ⟨m_blind, fun U hU hW => ⟨rfl, by rw [hU]; exact hP, by rw [hU]; exact hz, va_K.moved hW.alike hK⟩⟩ rfl (by rw [List.length_map]; exact hr4) hl.1 (by rw [hst]; show (List.map (m_cv N0) _) = _; simp [List.map_append, List.map_reverse, m_cv]) (by show 2 * 0 + _ ≤ 8; rw [m_cats]; omega) hdec ⟨by omega, by omega⟩) hS ?_
  intro r w1 H1 locs1 hq hrok hP1 hS1 hlen1
  have hst2 : (r.map (m_cv N0)).toList ++ S'.map (m_cv N0) = (r.toList ++ S').map (m_cv N0) := by cases r <;> rfl
  rw [hst2]
  exact K r w1 hq hrok p l e s m args below meth c N0 aI D Qf hC hF H1 locs1 ls (k + (m_rm mi').cells) (n + (m_rm mi').slots) hl hlen hP1 hS1 (by rw [hlen1]; omega) (by show k + (m_rm mi').cells + (bc - (m_rm mi').cells) = _; omega) (by show n + (m_rm mi').slots + (bs - (m_rm mi').slots) ≤ _; omega)

set_option maxHeartbeats 4000000 in
set_option maxRecDepth 100000 in
theorem m_callI {X : Nat × Nat × (Nat → Int32)} {mi pc i mi' y : Nat} {z : Int} {L : List (Option mPV)} {S : List mPV} {w : mPW} {bc bs : Nat} {Q Q' : Option mPV → mPW → Prop} {q : Nat} (as S' : List mPV) (hf : m_fetch mi pc = some (pc, .invokespecial i, mi', y, z)) (hst : S = as.reverse ++ .inr (.inl q) :: S') (hok0 : m_cok mi mi' as.length (m_words (.inr (.inl q) :: as)) S' bc bs = true) (C : m_Run X mi' (.inr (.inl q) :: as) w Q') (K : ∀ r w1, Q' r w1 → m_rok mi' r → m_Sem X mi (pc + 3, L, r.toList ++ S', w1, bc - (m_rm mi').cells, bs - (m_rm mi').slots) Q) : m_Sem X mi (pc, L, S, w, bc, bs) Q := by
  intro p l e s m args below meth c N0 aI D Qf hC hF H locs ls k n hl hlen hP hS hk hb1 hb2
  have hok := (m_fetch_ok hf).2
  obtain ⟨hx, hb, hml, hown, hts, hin, hK, h0, hX⟩ := id hC
  unfold m_okb at hok
  simp only [Bool.and_eq_true] at hok
  obtain ⟨hok1, hok2⟩ := hok
  dsimp only at hok1 hok2 hl hlen hP hS hk hb1 hb2
  have hdec := of_decide_eq_true hok1
  dsimp only [m_len] at hdec
  obtain ⟨hr1, hr2, hr3, hr4, hr5, hr6, hr7⟩ := m_cok_ok hok0
  have hlk := m_mths_w _ (of_decide_eq_true hok2.1)
  have hkd := of_decide_eq_true hok2.2
  have hkk : 0 < mi' ∧ m_kind mi' = 2 := by
    rcases hkd with h | h
    · omega
    · exact ⟨h.2.1, h.2.2⟩
  have hlk : Cond.methodLink (m_own mi) i (m_y mi') ∈ lw_g := by
    have h : Cond.methodLink (m_own mi) i (m_yy mi') ∈ lw_g := hlk
    unfold m_yy at h
    rw [if_pos (by omega)] at h
    exact h
  obtain ⟨g1, g2, g3, g4, g5, g6, ⟨g7, g9, g10, g11⟩, g8⟩ := m_met_w mi' hkk.1 hr5
  intro T hT XT
  subst hT
  have hz := m_size (X := X) (mi := mi) h0 hP hS hk XT
  suffices key : W p l e (m_rm mi) s m args below meth c T.heap locs k n Qf (F0 m pc ls (S.map (m_cv N0))) from key T rfl XT
  have hret := (g6 hkk.2).2
  have cw : CallB (m_rm mi) s args (m_own mi) i (m_y mi') (m_cd mi') (m_ml mi') none (m_ws mi') (m_rm mi') (m_rm mi').cells (m_rm mi').slots (m_np mi') ∧ (m_y mi').name = "<init>" ∧ (Cond.instanceMethod (m_y mi')).before args s = true := cwI (m_np mi') hts (m_good (m_ws_in hkk.1 hr5)) (by unfold m_ws; rw [hret]) rfl rfl (hts _ g2) (hts _ hlk) (hts _ (g4 (by omega))) (g6 hkk.2).1 ⟨g9, g10, g11⟩ hr1
  refine m_back (va_runI (b := N0 + q) (As := as.map (m_cv N0)) (rest := S'.map (m_cv N0)) ⟨hx, hb, hml, hown, hts⟩ (m_met l N0 aI D hkk.1 hr5 hr3 C) cw ⟨m_blind, fun U hU hW => ⟨rfl, by rw [hU]; exact hP, by rw [hU]; exact hz, va_K.moved hW.alike hK⟩⟩ rfl (by rw [List.length_map]; exact hr4) hl.1 (by rw [hst]; show (List.map (m_cv N0) _) = _; simp [List.map_append, List.map_reverse, m_cv]) (by show 2 * 0 + _ ≤ 8; rw [m_cats]; omega) hdec ⟨by omega, by omega⟩) hS ?_
  intro r w1 H1 locs1 hq hrok hP1 hS1 hlen1
  have hst2 : (r.map (m_cv N0)).toList ++ S'.map (m_cv N0) = (r.toList ++ S').map (m_cv N0) := by cases r <;> rfl
  rw [hst2]
  exact K r w1 hq hrok p l e s m args below meth c N0 aI D Qf hC hF H1 locs1 ls (k + (m_rm mi').cells) (n + (m_rm mi').slots) hl hlen hP1 hS1 (by rw [hlen1]; omega) (by show k + (m_rm mi').cells + (bc - (m_rm mi').cells) = _; omega) (by show n + (m_rm mi').slots + (bs - (m_rm mi').slots) ≤ _; omega)
end
section
/-! The world of one run: the class's thirteen cells, then the model's seven. Truth values, ends of calls, loops. -/
def bI (b : Bool) : Int := bif b then 1 else 0
theorem bI_e0 {b : Bool} : bI b = 0 ↔ b = false := by cases b <;> decide
theorem bI_n0 {b : Bool} : ¬ bI b = 0 ↔ b = true := by cases b <;> decide
theorem bI_01 (b : Bool) : bI b = 0 ∨ bI b = 1 := by cases b <;> decide
theorem bI_R (b : Bool) : m_R (bI b) := by cases b <;> exact ⟨by decide, by decide⟩
abbrev HS : Type := Int × (Int → Int) × (Int → Int)
abbrev TS : Type := Int × (Int → Int)
abbrev XS : Type := (Int → Int) × (Int → Int) × (Int → Int) × Int × Int × Int
abbrev CS : Type := Int × (Int → Int) × HS × TS × XS
abbrev MS : Type := (Int → Int) × TS × TS × (Int × Int × Int) × ((Nat → Int64) × (Nat → Int64)) × (Int → Int) × (Int × Int)
def mW (c : CS) (m : MS) : mPW :=
  [.inr (5, [.inr (.inl 1), .inr (.inl 2), .inr (.inl 4), .inr (.inl 7), .inr (.inl 9)]),
   .inr (2, [.inr (.inl 2)]),
   .inr (3, [.inl c.1, .inr (.inl 3)]),
   .inl (0, 81, .inl c.2.1),
   .inr (0, [.inr (.inl 5), .inr (.inl 6), .inl c.2.2.1.1]),
   .inl (0, 4, .inl c.2.2.1.2.1),
   .inl (0, 324, .inl c.2.2.1.2.2),
   .inr (4, [.inr (.inl 8), .inl c.2.2.2.1.1]),
   .inl (1, 60, .inl c.2.2.2.1.2),
   .inr (1, [.inr (.inl 10), .inr (.inl 11), .inr (.inl 12), .inl c.2.2.2.2.2.2.2.1, .inl c.2.2.2.2.2.2.2.2.1, .inl c.2.2.2.2.2.2.2.2.2]),
   .inl (0, 91, .inl c.2.2.2.2.1),
   .inl (0, 91, .inl c.2.2.2.2.2.1),
   .inl (0, 91, .inl c.2.2.2.2.2.2.1),
   .inr (6, [.inr (.inl 14), .inr (.inl 15), .inl m.2.1.1, .inr (.inl 16), .inl m.2.2.1.1, .inl m.2.2.2.1.1, .inl m.2.2.2.1.2.1, .inl m.2.2.2.1.2.2, .inr (.inl 17), .inr (.inl 18), .inr (.inl 19), .inl m.2.2.2.2.2.2.1, .inl m.2.2.2.2.2.2.2]),
   .inl (0, 82, .inl m.1),
   .inl (0, 328, .inl m.2.1.2),
   .inl (0, 60, .inl m.2.2.1.2),
   .inl (2, 182, .inr m.2.2.2.2.1.1),
   .inl (2, 182, .inr m.2.2.2.2.1.2),
   .inl (0, 91, .inl m.2.2.2.2.2.1)]
def m_V (v : Int) (w' : mPW) : Option mPV → mPW → Prop := fun r w => r = some (.inl v) ∧ w = w'
def m_U (w' : mPW) : Option mPV → mPW → Prop := fun r w => r = none ∧ w = w'
theorem m_Vi {v a : Int} {w : mPW} (h : a = v) : m_V v w (some (.inl a)) w := ⟨by rw [h], rfl⟩
theorem m_Vw {v a : Int} {w w' : mPW} (h : a = v) (hw : w = w') : m_V v w' (some (.inl a)) w := ⟨by rw [h], hw⟩
theorem m_callVF {X : Nat × Nat × (Nat → Int32)} {mi pc i mi' y : Nat} {z : Int} {L : List (Option mPV)} {S : List mPV} {w w1 : mPW} {bc bs : Nat} {Q : Option mPV → mPW → Prop} {v : Int} {q ci : Nat} {fs : List mPV} (as S' : List mPV) (hf : m_fetch mi pc = some (pc, .invokevirtual i, mi', y, z)) (hw : w[q]? = some (.inr (ci, fs))) (hc : ∃ r : vw_C, vwCl[ci]? = some r ∧ r.1 = (m_y mi').cls) (hst : S = as.reverse ++ .inr (.inl q) :: S') (hok0 : m_cok mi mi' as.length (m_words (.inr (.inl q) :: as)) S' bc bs = true) (C : m_Run X mi' (.inr (.inl q) :: as) w (m_V v w1)) (K : m_Sem X mi (pc + 3, L, .inl v :: S', w1, bc - (m_rm mi').cells, bs - (m_rm mi').slots) Q) : m_Sem X mi (pc, L, S, w, bc, bs) Q :=
  m_callV as S' hf hw hc hst hok0 C (fun r w2 hq _ => by obtain ⟨rfl, rfl⟩ := hq; exact K)
theorem m_callVU {X : Nat × Nat × (Nat → Int32)} {mi pc i mi' y : Nat} {z : Int} {L : List (Option mPV)} {S : List mPV} {w w1 : mPW} {bc bs : Nat} {Q : Option mPV → mPW → Prop} {q ci : Nat} {fs : List mPV} (as S' : List mPV) (hf : m_fetch mi pc = some (pc, .invokevirtual i, mi', y, z)) (hw : w[q]? = some (.inr (ci, fs))) (hc : ∃ r : vw_C, vwCl[ci]? = some r ∧ r.1 = (m_y mi').cls) (hst : S = as.reverse ++ .inr (.inl q) :: S') (hok0 : m_cok mi mi' as.length (m_words (.inr (.inl q) :: as)) S' bc bs = true) (C : m_Run X mi' (.inr (.inl q) :: as) w (m_U w1)) (K : m_Sem X mi (pc + 3, L, S', w1, bc - (m_rm mi').cells, bs - (m_rm mi').slots) Q) : m_Sem X mi (pc, L, S, w, bc, bs) Q :=
  m_callV as S' hf hw hc hst hok0 C (fun r w2 hq _ => by obtain ⟨rfl, rfl⟩ := hq; exact K)
theorem m_callSF {X : Nat × Nat × (Nat → Int32)} {mi pc i mi' y : Nat} {z : Int} {L : List (Option mPV)} {S : List mPV} {w w1 : mPW} {bc bs : Nat} {Q : Option mPV → mPW → Prop} {v : Int} (as S' : List mPV) (hf : m_fetch mi pc = some (pc, .invokestatic i, mi', y, z)) (hst : S = as.reverse ++ S') (hok0 : m_cok mi mi' as.length (m_words as) S' bc bs = true) (C : m_Run X mi' as w (m_V v w1)) (K : m_Sem X mi (pc + 3, L, .inl v :: S', w1, bc - (m_rm mi').cells, bs - (m_rm mi').slots) Q) : m_Sem X mi (pc, L, S, w, bc, bs) Q :=
  m_callS as S' hf hst hok0 C (fun r w2 hq _ => by obtain ⟨rfl, rfl⟩ := hq; exact K)
theorem m_callIU {X : Nat × Nat × (Nat → Int32)} {mi pc i mi' y : Nat} {z : Int} {L : List (Option mPV)} {S : List mPV} {w w1 : mPW} {bc bs : Nat} {Q : Option mPV → mPW → Prop} {q : Nat} (as S' : List mPV) (hf : m_fetch mi pc = some (pc, .invokespecial i, mi', y, z)) (hst : S = as.reverse ++ .inr (.inl q) :: S') (hok0 : m_cok mi mi' as.length (m_words (.inr (.inl q) :: as)) S' bc bs = true) (C : m_Run X mi' (.inr (.inl q) :: as) w (m_U w1)) (K : m_Sem X mi (pc + 3, L, S', w1, bc - (m_rm mi').cells, bs - (m_rm mi').slots) Q) : m_Sem X mi (pc, L, S, w, bc, bs) Q :=
  m_callI as S' hf hst hok0 C (fun r w2 hq _ => by obtain ⟨rfl, rfl⟩ := hq; exact K)
/-- a loop that counts up: from its end backwards -/
theorem m_down {P : Int → Prop} (lo hi : Int) (h1 : P hi) (h2 : ∀ i, lo ≤ i → i < hi → P (i + 1) → P i) : ∀ i, lo ≤ i → i ≤ hi → P i := by
  have key : ∀ (k : Nat) (i : Int), lo ≤ i → i + k = hi → P i := by
    intro k
    induction k with
    | zero => intro i _ h; rw [show i = hi by omega]; exact h1
    | succ k ih => intro i h h'; exact h2 i h (by omega) (ih (i + 1) (by omega) (by omega))
  intro i h h'
  exact key (hi - i).toNat i h (by omega)
def okN (n : Int) : Prop := n = 2 ∨ n = 3 ∨ n = 4 ∨ n = 5 ∨ n = 7 ∨ n = 9
theorem okN_lo {n : Int} (h : okN n) : 2 ≤ n ∧ n ≤ 9 := by unfold okN at h; omega
def repC (n : Int) (T : Int → Int) (tb : Int → Int → Int) : Prop := okN n ∧ ∀ a b, 0 ≤ a → a < n → 0 ≤ b → b < n → T (9 * a + b) = tb a b ∧ 0 ≤ tb a b ∧ tb a b < n
def repM (n : Int) (s : Int → Int) (tb : Int → Int → Int) : Prop := okN n ∧ s 0 = n ∧ ∀ a b, 0 ≤ a → a < n → 0 ≤ b → b < n → s (1 + 9 * a + b) = tb a b ∧ 0 ≤ tb a b ∧ tb a b < n
def sumS (n a b : Int) : Int := if n = 4 then (Int32.ofInt a ^^^ Int32.ofInt b).toInt else if n = 9 then 3 * ((a / 3 + b / 3) % 3) + (a % 3 + b % 3) % 3 else if a + b < n then a + b else a + b - n
def difS (n a b : Int) : Int := if n = 4 then (Int32.ofInt a ^^^ Int32.ofInt b).toInt else if n = 9 then 3 * ((a / 3 - b / 3 + 3) % 3) + (a % 3 - b % 3 + 3) % 3 else if a < b then a - b + n else a - b
def fpS (n a b : Int) : Int := if n = 4 then (if a = 0 ∨ b = 0 then 0 else 1 + (a + b - 2) % 3) else if n = 9 then 3 * ((a / 3 * (b % 3) + a % 3 * (b / 3)) % 3) + (a % 3 * (b % 3) - a / 3 * (b / 3) + 6) % 3 else a * b % n
/-- what a program decides for all sizes and elements -/
theorem all2 {P : Int → Int → Int → Prop} (h : ∀ n ∈ ([2, 3, 4, 5, 7, 9] : List Nat), ∀ a, a < n → ∀ b, b < n → P (n : Int) (a : Int) (b : Int)) {n a b : Int} (hn : okN n) (ha : 0 ≤ a) (ha' : a < n) (hb : 0 ≤ b) (hb' : b < n) : P n a b := by
  have hl := okN_lo hn
  have h1 := h n.toNat (by unfold okN at hn; simp only [List.mem_cons, List.not_mem_nil, or_false]; omega) a.toNat (by omega) b.toNat (by omega)
  rw [Int.toNat_of_nonneg (by omega), Int.toNat_of_nonneg ha, Int.toNat_of_nonneg hb] at h1
  exact h1
theorem sumS_in {n a b : Int} (hn : okN n) (ha : 0 ≤ a) (ha' : a < n) (hb : 0 ≤ b) (hb' : b < n) : 0 ≤ sumS n a b ∧ sumS n a b < n := all2 (P := fun n a b => 0 ≤ sumS n a b ∧ sumS n a b < n) (by decide +kernel) hn ha ha' hb hb'
theorem difS_in {n a b : Int} (hn : okN n) (ha : 0 ≤ a) (ha' : a < n) (hb : 0 ≤ b) (hb' : b < n) : 0 ≤ difS n a b ∧ difS n a b < n := all2 (P := fun n a b => 0 ≤ difS n a b ∧ difS n a b < n) (by decide +kernel) hn ha ha' hb hb'
theorem fpS_in {n a b : Int} (hn : okN n) (ha : 0 ≤ a) (ha' : a < n) (hb : 0 ≤ b) (hb' : b < n) : 0 ≤ fpS n a b ∧ fpS n a b < n := all2 (P := fun n a b => 0 ≤ fpS n a b ∧ fpS n a b < n) (by decide +kernel) hn ha ha' hb hb'
theorem sum_dif {n a b : Int} (hn : okN n) (ha : 0 ≤ a) (ha' : a < n) (hb : 0 ≤ b) (hb' : b < n) : sumS n b (difS n a b) = a := all2 (P := fun n a b => sumS n b (difS n a b) = a) (by decide +kernel) hn ha ha' hb hb'
theorem dif_sum {n a b : Int} (hn : okN n) (ha : 0 ≤ a) (ha' : a < n) (hb : 0 ≤ b) (hb' : b < n) : difS n (sumS n b a) b = a := all2 (P := fun n a b => difS n (sumS n b a) b = a) (by decide +kernel) hn ha ha' hb hb'
theorem sum_comm {n a b : Int} (hn : okN n) (ha : 0 ≤ a) (ha' : a < n) (hb : 0 ≤ b) (hb' : b < n) : sumS n a b = sumS n b a := all2 (P := fun n a b => sumS n a b = sumS n b a) (by decide +kernel) hn ha ha' hb hb'
end
section
/-! What the loops compute: the first, the sum, all, the first of some kind; k steps from i on. -/
def fstF (p : Int → Bool) : Nat → Int → Int
  | 0, _ => -1
  | k + 1, i => bif p i then i else fstF p k (i + 1)
def sumF (f : Int → Int) : Nat → Int → Int
  | 0, _ => 0
  | k + 1, i => f i + sumF f k (i + 1)
def allF (p : Int → Bool) : Nat → Int → Bool
  | 0, _ => true
  | k + 1, i => p i && allF p k (i + 1)
def optF {α : Type} (f : Int → Option α) : Nat → Int → Option α
  | 0, _ => none
  | k + 1, i => match f i with
    | some a => some a
    | none => optF f k (i + 1)
theorem nat_end (n : Int) : (n - n).toNat = 0 := by omega
theorem nat_step {n i : Int} (h : i < n) : (n - i).toNat = (n - (i + 1)).toNat + 1 := by omega
theorem fst_end (p : Int → Bool) (n : Int) : fstF p (n - n).toNat n = -1 := by rw [nat_end]; rfl
theorem fst_t {p : Int → Bool} {n i : Int} (h : i < n) (hp : p i = true) : fstF p (n - i).toNat i = i := by
  rw [nat_step h]
  show (bif p i then i else fstF p (n - (i + 1)).toNat (i + 1)) = _
  rw [hp]; rfl
theorem fst_f {p : Int → Bool} {n i : Int} (h : i < n) (hp : p i = false) : fstF p (n - i).toNat i = fstF p (n - (i + 1)).toNat (i + 1) := by
  rw [nat_step h]
  show (bif p i then i else fstF p (n - (i + 1)).toNat (i + 1)) = _
  rw [hp]; rfl
theorem sum_end (f : Int → Int) (n : Int) : sumF f (n - n).toNat n = 0 := by rw [nat_end]; rfl
theorem sum_step {f : Int → Int} {n i : Int} (h : i < n) : sumF f (n - i).toNat i = f i + sumF f (n - (i + 1)).toNat (i + 1) := by rw [nat_step h]; rfl
theorem all_end (p : Int → Bool) (n : Int) : allF p (n - n).toNat n = true := by rw [nat_end]; rfl
theorem all_t {p : Int → Bool} {n i : Int} (h : i < n) (hp : p i = true) : allF p (n - i).toNat i = allF p (n - (i + 1)).toNat (i + 1) := by
  rw [nat_step h]
  show (p i && allF p (n - (i + 1)).toNat (i + 1)) = _
  rw [hp]; rfl
theorem all_f {p : Int → Bool} {n i : Int} (h : i < n) (hp : p i = false) : allF p (n - i).toNat i = false := by
  rw [nat_step h]
  show (p i && allF p (n - (i + 1)).toNat (i + 1)) = _
  rw [hp]; rfl
theorem opt_end {α : Type} (f : Int → Option α) (n : Int) : optF f (n - n).toNat n = none := by rw [nat_end]; rfl
theorem opt_s {α : Type} {f : Int → Option α} {n i : Int} {a : α} (h : i < n) (hp : f i = some a) : optF f (n - i).toNat i = some a := by
  rw [nat_step h]
  show (match f i with | some a => some a | none => optF f (n - (i + 1)).toNat (i + 1)) = _
  rw [hp]
theorem opt_n {α : Type} {f : Int → Option α} {n i : Int} (h : i < n) (hp : f i = none) : optF f (n - i).toNat i = optF f (n - (i + 1)).toNat (i + 1) := by
  rw [nat_step h]
  show (match f i with | some a => some a | none => optF f (n - (i + 1)).toNat (i + 1)) = _
  rw [hp]
theorem z_sub (n : Int) : (n - 0).toNat = n.toNat := by rw [Int.sub_zero]
theorem fst_congr {p q : Int → Bool} : ∀ (k : Nat) (i : Int), (∀ j, i ≤ j → j < i + k → p j = q j) → fstF p k i = fstF q k i
  | 0, _, _ => rfl
  | k + 1, i, h => by
    unfold fstF
    rw [h i (by omega) (by omega), fst_congr k (i + 1) (fun j h1 h2 => h j (by omega) (by omega))]
theorem sum_congr {p q : Int → Int} : ∀ (k : Nat) (i : Int), (∀ j, i ≤ j → j < i + k → p j = q j) → sumF p k i = sumF q k i
  | 0, _, _ => rfl
  | k + 1, i, h => by
    unfold sumF
    rw [h i (by omega) (by omega), sum_congr k (i + 1) (fun j h1 h2 => h j (by omega) (by omega))]
theorem all_congr {p q : Int → Bool} : ∀ (k : Nat) (i : Int), (∀ j, i ≤ j → j < i + k → p j = q j) → allF p k i = allF q k i
  | 0, _, _ => rfl
  | k + 1, i, h => by
    unfold allF
    rw [h i (by omega) (by omega), all_congr k (i + 1) (fun j h1 h2 => h j (by omega) (by omega))]
theorem opt_congr {α : Type} {p q : Int → Option α} : ∀ (k : Nat) (i : Int), (∀ j, i ≤ j → j < i + k → p j = q j) → optF p k i = optF q k i
  | 0, _, _ => rfl
  | k + 1, i, h => by
    unfold optF
    rw [h i (by omega) (by omega), opt_congr k (i + 1) (fun j h1 h2 => h j (by omega) (by omega))]
theorem all_iff {p : Int → Bool} : ∀ (k : Nat) (i : Int), allF p k i = true ↔ ∀ j, i ≤ j → j < i + k → p j = true
  | 0, i => ⟨fun _ j h1 h2 => absurd h2 (by omega), fun _ => rfl⟩
  | k + 1, i => by
    unfold allF
    rw [Bool.and_eq_true, all_iff k (i + 1)]
    refine ⟨fun h j h1 h2 => ?_, fun h => ⟨h i (by omega) (by omega), fun j h1 h2 => h j (by omega) (by omega)⟩⟩
    by_cases hj : j = i
    · rw [hj]; exact h.1
    · exact h.2 j (by omega) (by omega)
theorem sum_bound {f : Int → Int} {B : Int} : ∀ (k : Nat) (i : Int), (∀ j, i ≤ j → j < i + k → 0 ≤ f j ∧ f j ≤ B) → 0 ≤ sumF f k i ∧ sumF f k i ≤ k * B
  | 0, _, _ => ⟨Int.le_refl 0, by simp [sumF]⟩
  | k + 1, i, h => by
    have h1 := h i (by omega) (by omega)
    have h2 := sum_bound k (i + 1) (fun j h1 h2 => h j (by omega) (by omega))
    unfold sumF
    have h3 : ((k + 1 : Nat) : Int) * B = k * B + B := by rw [Int.natCast_add, Int.add_mul]; simp
    omega
end
section
def inN (n e : Int) : Bool := decide (0 ≤ e) && decide (e < n)
theorem inN_t {n e : Int} (h1 : 0 ≤ e) (h2 : e < n) : inN n e = true := by unfold inN; rw [decide_eq_true h1, decide_eq_true h2]; rfl
theorem inN_f {n e : Int} (h : e < 0 ∨ n ≤ e) : inN n e = false := by
  unfold inN
  rcases h with h | h
  · rw [decide_eq_false (by omega : ¬ 0 ≤ e)]; rfl
  · rw [decide_eq_false (by omega : ¬ e < n), Bool.and_false]
theorem inN_i {n e : Int} : inN n e = true ↔ 0 ≤ e ∧ e < n := by unfold inN; simp
theorem inN_i2 {n e : Int} : inN n e = false ↔ e < 0 ∨ n ≤ e := by
  unfold inN
  rw [Bool.and_eq_false_iff, decide_eq_false_iff_not, decide_eq_false_iff_not]
  omega
set_option maxHeartbeats 4000000 in
set_option maxRecDepth 100000 in
theorem k_has {X : Nat × Nat × (Nat → Int32)} {n : Int} {T : Int → Int} {h : HS} {t : TS} {x : XS} {M : MS} {e : Int} (hn : okN n) (he : m_R e) : m_Run X 37 [.inr (.inl 2), .inl e] (mW (n, T, h, t, x) M) (m_V (bI (inN n e)) (mW (n, T, h, t, x) M)) := by
  have hl := okN_lo hn
  show m_Sem X 37 (0, [some (.inr (.inl 2)), some (.inl e)], [], mW (n, T, h, t, x) M, 0, 0) _
  refine m_run 1 (ps' := (1, [some (.inr (.inl 2)), some (.inl e)], [.inl e], mW (n, T, h, t, x) M, 0, 0)) rfl ?_
  refine m_if rfl he (fun (zc1 : e < 0) => ?_) (fun (zc1 : ¬ e < 0) => ?_)
  · refine m_run 1 (ps' := (17, [some (.inr (.inl 2)), some (.inl e)], [.inl 0], mW (n, T, h, t, x) M, 0, 0)) rfl ?_
    exact m_ret1 rfl (Or.inr ⟨rfl, Or.inl rfl⟩) rfl (m_Vi (by rw [inN_f (by omega)]; rfl))
  · refine m_run 3 (ps' := (9, [some (.inr (.inl 2)), some (.inl e)], [.inl n, .inl e], mW (n, T, h, t, x) M, 0, 0)) rfl ?_
    refine m_icmp rfl he ⟨by omega, by omega⟩ (fun (zc2 : n ≤ e) => ?_) (fun (zc2 : ¬ n ≤ e) => ?_)
    · refine m_run 1 (ps' := (17, [some (.inr (.inl 2)), some (.inl e)], [.inl 0], mW (n, T, h, t, x) M, 0, 0)) rfl ?_
      exact m_ret1 rfl (Or.inr ⟨rfl, Or.inl rfl⟩) rfl (m_Vi (by rw [inN_f (by omega)]; rfl))
    · refine m_run 2 (ps' := (17, [some (.inr (.inl 2)), some (.inl e)], [.inl 1], mW (n, T, h, t, x) M, 0, 0)) rfl ?_
      exact m_ret1 rfl (Or.inr ⟨rfl, Or.inr rfl⟩) rfl (m_Vi (by rw [inN_t (by omega) (by omega)]; rfl))
set_option maxHeartbeats 4000000 in
set_option maxRecDepth 100000 in
theorem k_sum {X : Nat × Nat × (Nat → Int32)} {n : Int} {T : Int → Int} {h : HS} {t : TS} {x : XS} {M : MS} {a b : Int} (hn : okN n) (ha : 0 ≤ a) (ha2 : a < n) (hb : 0 ≤ b) (hb2 : b < n) : m_Run X 38 [.inr (.inl 2), .inl a, .inl b] (mW (n, T, h, t, x) M) (m_V (sumS n a b) (mW (n, T, h, t, x) M)) := by
  have hl := okN_lo hn
  show m_Sem X 38 (0, [some (.inr (.inl 2)), some (.inl a), some (.inl b)], [], mW (n, T, h, t, x) M, 0, 0) _
  refine m_run 3 (ps' := (5, [some (.inr (.inl 2)), some (.inl a), some (.inl b)], [.inl 4, .inl n], mW (n, T, h, t, x) M, 0, 0)) rfl ?_
  refine m_icmp rfl ⟨by omega, by omega⟩ ⟨by omega, by omega⟩ (fun (zc1 : ¬ n = 4) => ?_) (fun (zc1 : ¬ ¬ n = 4) => ?_)
  · refine m_run 3 (ps' := (18, [some (.inr (.inl 2)), some (.inl a), some (.inl b)], [.inl 9, .inl n], mW (n, T, h, t, x) M, 0, 0)) rfl ?_
    refine m_icmp rfl ⟨by omega, by omega⟩ ⟨by omega, by omega⟩ (fun (zc2 : ¬ n = 9) => ?_) (fun (zc2 : ¬ ¬ n = 9) => ?_)
    · refine m_run 5 (ps' := (50, [some (.inr (.inl 2)), some (.inl a), some (.inl b)], [.inl n, .inl (a + b)], mW (n, T, h, t, x) M, 0, 0)) rfl ?_
      refine m_icmp rfl ⟨by omega, by omega⟩ ⟨by omega, by omega⟩ (fun (zc3 : n ≤ (a + b)) => ?_) (fun (zc3 : ¬ n ≤ (a + b)) => ?_)
      · refine m_run 6 (ps' := (67, [some (.inr (.inl 2)), some (.inl a), some (.inl b)], [.inl ((a + b) - n)], mW (n, T, h, t, x) M, 0, 0)) rfl ?_
        exact m_ret1 rfl (Or.inl rfl) rfl (m_Vi (by unfold sumS; (repeat' split) <;> first | rfl | omega))
      · refine m_run 4 (ps' := (67, [some (.inr (.inl 2)), some (.inl a), some (.inl b)], [.inl (a + b)], mW (n, T, h, t, x) M, 0, 0)) rfl ?_
        exact m_ret1 rfl (Or.inl rfl) rfl (m_Vi (by unfold sumS; (repeat' split) <;> first | rfl | omega))
    · replace zc2 : n = 9 := Decidable.not_not.mp zc2
      refine m_run 3 (ps' := (24, [some (.inr (.inl 2)), some (.inl a), some (.inl b)], [.inl 3, .inl a, .inl 3], mW (n, T, h, t, x) M, 0, 0)) rfl ?_
      refine m_div rfl (by omega) (by omega) (by omega) (by omega) ?_
      refine m_run 2 (ps' := (27, [some (.inr (.inl 2)), some (.inl a), some (.inl b)], [.inl 3, .inl b, .inl (a / 3), .inl 3], mW (n, T, h, t, x) M, 0, 0)) rfl ?_
      refine m_div rfl (by omega) (by omega) (by omega) (by omega) ?_
      refine m_run 2 (ps' := (30, [some (.inr (.inl 2)), some (.inl a), some (.inl b)], [.inl 3, .inl ((a / 3) + (b / 3)), .inl 3], mW (n, T, h, t, x) M, 0, 0)) rfl ?_
      refine m_rem rfl (by omega) (by omega) (by omega) (by omega) ?_
      refine m_run 3 (ps' := (34, [some (.inr (.inl 2)), some (.inl a), some (.inl b)], [.inl 3, .inl a, .inl (3 * (((a / 3) + (b / 3)) % 3))], mW (n, T, h, t, x) M, 0, 0)) rfl ?_
      refine m_rem rfl (by omega) (by omega) (by omega) (by omega) ?_
      refine m_run 2 (ps' := (37, [some (.inr (.inl 2)), some (.inl a), some (.inl b)], [.inl 3, .inl b, .inl (a % 3), .inl (3 * (((a / 3) + (b / 3)) % 3))], mW (n, T, h, t, x) M, 0, 0)) rfl ?_
      refine m_rem rfl (by omega) (by omega) (by omega) (by omega) ?_
      refine m_run 2 (ps' := (40, [some (.inr (.inl 2)), some (.inl a), some (.inl b)], [.inl 3, .inl ((a % 3) + (b % 3)), .inl (3 * (((a / 3) + (b / 3)) % 3))], mW (n, T, h, t, x) M, 0, 0)) rfl ?_
      refine m_rem rfl (by omega) (by omega) (by omega) (by omega) ?_
      refine m_run 1 (ps' := (42, [some (.inr (.inl 2)), some (.inl a), some (.inl b)], [.inl ((3 * (((a / 3) + (b / 3)) % 3)) + (((a % 3) + (b % 3)) % 3))], mW (n, T, h, t, x) M, 0, 0)) rfl ?_
      exact m_ret1 rfl (Or.inl rfl) rfl (m_Vi (by unfold sumS; (repeat' split) <;> first | rfl | omega))
  · replace zc1 : n = 4 := Decidable.not_not.mp zc1
    refine m_run 3 (ps' := (11, [some (.inr (.inl 2)), some (.inl a), some (.inl b)], [.inl ((Int32.ofInt a ^^^ Int32.ofInt b).toInt)], mW (n, T, h, t, x) M, 0, 0)) rfl ?_
    exact m_ret1 rfl (Or.inl rfl) rfl (m_Vi (by unfold sumS; (repeat' split) <;> first | rfl | omega))
set_option maxHeartbeats 4000000 in
set_option maxRecDepth 100000 in
theorem k_dif {X : Nat × Nat × (Nat → Int32)} {n : Int} {T : Int → Int} {h : HS} {t : TS} {x : XS} {M : MS} {a b : Int} (hn : okN n) (ha : 0 ≤ a) (ha2 : a < n) (hb : 0 ≤ b) (hb2 : b < n) : m_Run X 39 [.inr (.inl 2), .inl a, .inl b] (mW (n, T, h, t, x) M) (m_V (difS n a b) (mW (n, T, h, t, x) M)) := by
  have hl := okN_lo hn
  show m_Sem X 39 (0, [some (.inr (.inl 2)), some (.inl a), some (.inl b)], [], mW (n, T, h, t, x) M, 0, 0) _
  refine m_run 3 (ps' := (5, [some (.inr (.inl 2)), some (.inl a), some (.inl b)], [.inl 4, .inl n], mW (n, T, h, t, x) M, 0, 0)) rfl ?_
  refine m_icmp rfl ⟨by omega, by omega⟩ ⟨by omega, by omega⟩ (fun (zc1 : ¬ n = 4) => ?_) (fun (zc1 : ¬ ¬ n = 4) => ?_)
  · refine m_run 3 (ps' := (18, [some (.inr (.inl 2)), some (.inl a), some (.inl b)], [.inl 9, .inl n], mW (n, T, h, t, x) M, 0, 0)) rfl ?_
    refine m_icmp rfl ⟨by omega, by omega⟩ ⟨by omega, by omega⟩ (fun (zc2 : ¬ n = 9) => ?_) (fun (zc2 : ¬ ¬ n = 9) => ?_)
    · refine m_run 2 (ps' := (49, [some (.inr (.inl 2)), some (.inl a), some (.inl b)], [.inl b, .inl a], mW (n, T, h, t, x) M, 0, 0)) rfl ?_
      refine m_icmp rfl ⟨by omega, by omega⟩ ⟨by omega, by omega⟩ (fun (zc3 : b ≤ a) => ?_) (fun (zc3 : ¬ b ≤ a) => ?_)
      · refine m_run 3 (ps' := (66, [some (.inr (.inl 2)), some (.inl a), some (.inl b)], [.inl (a - b)], mW (n, T, h, t, x) M, 0, 0)) rfl ?_
        exact m_ret1 rfl (Or.inl rfl) rfl (m_Vi (by unfold difS; (repeat' split) <;> first | rfl | omega))
      · refine m_run 7 (ps' := (66, [some (.inr (.inl 2)), some (.inl a), some (.inl b)], [.inl ((a - b) + n)], mW (n, T, h, t, x) M, 0, 0)) rfl ?_
        exact m_ret1 rfl (Or.inl rfl) rfl (m_Vi (by unfold difS; (repeat' split) <;> first | rfl | omega))
    · replace zc2 : n = 9 := Decidable.not_not.mp zc2
      refine m_run 3 (ps' := (24, [some (.inr (.inl 2)), some (.inl a), some (.inl b)], [.inl 3, .inl a, .inl 3], mW (n, T, h, t, x) M, 0, 0)) rfl ?_
      refine m_div rfl (by omega) (by omega) (by omega) (by omega) ?_
      refine m_run 2 (ps' := (27, [some (.inr (.inl 2)), some (.inl a), some (.inl b)], [.inl 3, .inl b, .inl (a / 3), .inl 3], mW (n, T, h, t, x) M, 0, 0)) rfl ?_
      refine m_div rfl (by omega) (by omega) (by omega) (by omega) ?_
      refine m_run 4 (ps' := (32, [some (.inr (.inl 2)), some (.inl a), some (.inl b)], [.inl 3, .inl (((a / 3) - (b / 3)) + 3), .inl 3], mW (n, T, h, t, x) M, 0, 0)) rfl ?_
      refine m_rem rfl (by omega) (by omega) (by omega) (by omega) ?_
      refine m_run 3 (ps' := (36, [some (.inr (.inl 2)), some (.inl a), some (.inl b)], [.inl 3, .inl a, .inl (3 * ((((a / 3) - (b / 3)) + 3) % 3))], mW (n, T, h, t, x) M, 0, 0)) rfl ?_
      refine m_rem rfl (by omega) (by omega) (by omega) (by omega) ?_
      refine m_run 2 (ps' := (39, [some (.inr (.inl 2)), some (.inl a), some (.inl b)], [.inl 3, .inl b, .inl (a % 3), .inl (3 * ((((a / 3) - (b / 3)) + 3) % 3))], mW (n, T, h, t, x) M, 0, 0)) rfl ?_
      refine m_rem rfl (by omega) (by omega) (by omega) (by omega) ?_
      refine m_run 4 (ps' := (44, [some (.inr (.inl 2)), some (.inl a), some (.inl b)], [.inl 3, .inl (((a % 3) - (b % 3)) + 3), .inl (3 * ((((a / 3) - (b / 3)) + 3) % 3))], mW (n, T, h, t, x) M, 0, 0)) rfl ?_
      refine m_rem rfl (by omega) (by omega) (by omega) (by omega) ?_
      refine m_run 1 (ps' := (46, [some (.inr (.inl 2)), some (.inl a), some (.inl b)], [.inl ((3 * ((((a / 3) - (b / 3)) + 3) % 3)) + ((((a % 3) - (b % 3)) + 3) % 3))], mW (n, T, h, t, x) M, 0, 0)) rfl ?_
      exact m_ret1 rfl (Or.inl rfl) rfl (m_Vi (by unfold difS; (repeat' split) <;> first | rfl | omega))
  · replace zc1 : n = 4 := Decidable.not_not.mp zc1
    refine m_run 3 (ps' := (11, [some (.inr (.inl 2)), some (.inl a), some (.inl b)], [.inl ((Int32.ofInt a ^^^ Int32.ofInt b).toInt)], mW (n, T, h, t, x) M, 0, 0)) rfl ?_
    exact m_ret1 rfl (Or.inl rfl) rfl (m_Vi (by unfold difS; (repeat' split) <;> first | rfl | omega))
set_option maxHeartbeats 4000000 in
set_option maxRecDepth 100000 in
theorem k_times {X : Nat × Nat × (Nat → Int32)} {n : Int} {T : Int → Int} {h : HS} {t : TS} {x : XS} {M : MS} {tb : Int → Int → Int} {a b : Int} (hR : repC n T tb) (ha : 0 ≤ a) (ha2 : a < n) (hb : 0 ≤ b) (hb2 : b < n) : m_Run X 40 [.inr (.inl 2), .inl a, .inl b] (mW (n, T, h, t, x) M) (m_V (tb a b) (mW (n, T, h, t, x) M)) := by
  have hn := hR.1
  have hl := okN_lo hn
  show m_Sem X 40 (0, [some (.inr (.inl 2)), some (.inl a), some (.inl b), none], [], mW (n, T, h, t, x) M, 0, 0) _
  refine m_run 7 (ps' := (8, [some (.inr (.inl 2)), some (.inl a), some (.inl b), some (.inl ((9 * a) + b))], [.inl ((9 * a) + b)], mW (n, T, h, t, x) M, 0, 0)) rfl ?_
  refine m_if rfl ⟨by omega, by omega⟩ (fun (zc1 : ((9 * a) + b) < 0) => absurd zc1 (by omega)) (fun (zc1 : ¬ ((9 * a) + b) < 0) => ?_)
  refine m_run 4 (ps' := (17, [some (.inr (.inl 2)), some (.inl a), some (.inl b), some (.inl ((9 * a) + b))], [.inl 81, .inl ((9 * a) + b)], mW (n, T, h, t, x) M, 0, 0)) rfl ?_
  refine m_icmp rfl ⟨by omega, by omega⟩ ⟨by omega, by omega⟩ (fun (zc2 : 81 ≤ ((9 * a) + b)) => absurd zc2 (by omega)) (fun (zc2 : ¬ 81 ≤ ((9 * a) + b)) => ?_)
  refine m_run 3 (ps' := (25, [some (.inr (.inl 2)), some (.inl a), some (.inl b), some (.inl ((9 * a) + b))], [.inl ((9 * a) + b), .inr (.inl 3)], mW (n, T, h, t, x) M, 0, 0)) rfl ?_
  refine m_iald rfl rfl (by omega) (by omega) (by decide) ?_
  refine m_run 1 (ps' := (30, [some (.inr (.inl 2)), some (.inl a), some (.inl b), some (.inl ((9 * a) + b))], [.inl (T ((9 * a) + b))], mW (n, T, h, t, x) M, 0, 0)) rfl ?_
  exact m_ret1 rfl (Or.inl rfl) rfl (m_Vi (hR.2 a b ha ha2 hb hb2).1)
def sideS (tb : Int → Int → Int) (r : Bool) (a x : Int) : Int := bif r then tb a x else tb x a
set_option maxHeartbeats 4000000 in
set_option maxRecDepth 100000 in
theorem k_side {X : Nat × Nat × (Nat → Int32)} {n : Int} {T : Int → Int} {h : HS} {t : TS} {x : XS} {M : MS} {tb : Int → Int → Int} {r : Bool} {a b : Int} (hR : repC n T tb) (ha : 0 ≤ a) (ha2 : a < n) (hb : 0 ≤ b) (hb2 : b < n) : m_Run X 41 [.inr (.inl 2), .inl a, .inl b, .inl (bI r)] (mW (n, T, h, t, x) M) (m_V (sideS tb r a b) (mW (n, T, h, t, x) M)) := by
  have hn := hR.1
  have hl := okN_lo hn
  show m_Sem X 41 (0, [some (.inr (.inl 2)), some (.inl a), some (.inl b), some (.inl (bI r))], [], mW (n, T, h, t, x) M, 0, 0) _
  refine m_run 1 (ps' := (1, [some (.inr (.inl 2)), some (.inl a), some (.inl b), some (.inl (bI r))], [.inl (bI r)], mW (n, T, h, t, x) M, 0, 0)) rfl ?_
  refine m_if rfl (bI_R r) (fun (zc1 : (bI r) = 0) => ?_) (fun (zc1 : ¬ (bI r) = 0) => ?_)
  · replace zc1 : r = false := bI_e0.mp zc1
    refine m_run 3 (ps' := (16, [some (.inr (.inl 2)), some (.inl a), some (.inl b), some (.inl (bI r))], [.inl a, .inl b, .inr (.inl 2)], mW (n, T, h, t, x) M, 0, 0)) rfl ?_
    refine m_callVF [.inl b, .inl a] [] rfl rfl ⟨_, rfl, rfl⟩ rfl rfl (k_times (a := b) (b := a) hR (by omega) (by omega) (by omega) (by omega)) ?_
    have zt1 := (hR.2 b a (by omega) (by omega) (by omega) (by omega)).2
    show m_Sem X 41 (19, [some (.inr (.inl 2)), some (.inl a), some (.inl b), some (.inl (bI r))], [.inl (tb b a)], mW (n, T, h, t, x) M, 0, 0) _
    exact m_ret1 rfl (Or.inl rfl) rfl (m_Vi (by unfold sideS; rw [zc1]; rfl))
  · replace zc1 : r = true := bI_n0.mp zc1
    refine m_run 3 (ps' := (7, [some (.inr (.inl 2)), some (.inl a), some (.inl b), some (.inl (bI r))], [.inl b, .inl a, .inr (.inl 2)], mW (n, T, h, t, x) M, 0, 0)) rfl ?_
    refine m_callVF [.inl a, .inl b] [] rfl rfl ⟨_, rfl, rfl⟩ rfl rfl (k_times (a := a) (b := b) hR (by omega) (by omega) (by omega) (by omega)) ?_
    have zt1 := (hR.2 a b (by omega) (by omega) (by omega) (by omega)).2
    show m_Sem X 41 (10, [some (.inr (.inl 2)), some (.inl a), some (.inl b), some (.inl (bI r))], [.inl (tb a b)], mW (n, T, h, t, x) M, 0, 0) _
    refine m_run 1 (ps' := (19, [some (.inr (.inl 2)), some (.inl a), some (.inl b), some (.inl (bI r))], [.inl (tb a b)], mW (n, T, h, t, x) M, 0, 0)) rfl ?_
    exact m_ret1 rfl (Or.inl rfl) rfl (m_Vi (by unfold sideS; rw [zc1]; rfl))
theorem sideS_in {n : Int} {T : Int → Int} {tb : Int → Int → Int} (hR : repC n T tb) {r : Bool} {a x : Int} (ha : 0 ≤ a) (ha2 : a < n) (hb : 0 ≤ x) (hb2 : x < n) : 0 ≤ sideS tb r a x ∧ sideS tb r a x < n := by
  cases r
  · exact (hR.2 x a hb hb2 ha ha2).2
  · exact (hR.2 a x ha ha2 hb hb2).2
set_option maxHeartbeats 4000000 in
set_option maxRecDepth 100000 in
theorem l_low {X : Nat × Nat × (Nat → Int32)} {n : Int} {T : Int → Int} {h : HS} {t : TS} {x : XS} {M : MS} {tb : Int → Int → Int} {a b : Int} {r : Bool} (hR : repC n T tb) (ha : 0 ≤ a) (ha2 : a < n) (hb : 0 ≤ b) (hb2 : b < n) : ∀ i : Int, 0 ≤ i → i ≤ n → m_Sem X 42 (3, [some (.inr (.inl 2)), some (.inl a), some (.inl b), some (.inl (bI r)), some (.inl i)], [], mW (n, T, h, t, x) M, 0, 0) (m_V (fstF (fun i => decide (sideS tb r a i = b)) (n - i).toNat i) (mW (n, T, h, t, x) M)) := by
  have hn := hR.1
  have hl := okN_lo hn
  refine m_down 0 n ?_ ?_
  · show m_Sem X 42 (3, [some (.inr (.inl 2)), some (.inl a), some (.inl b), some (.inl (bI r)), some (.inl n)], [], mW (n, T, h, t, x) M, 0, 0) _
    refine m_run 3 (ps' := (9, [some (.inr (.inl 2)), some (.inl a), some (.inl b), some (.inl (bI r)), some (.inl n)], [.inl n, .inl n], mW (n, T, h, t, x) M, 0, 0)) rfl ?_
    refine m_icmp rfl ⟨by omega, by omega⟩ ⟨by omega, by omega⟩ (fun (zc1 : n ≤ n) => ?_) (fun (zc1 : ¬ n ≤ n) => absurd zc1 (not_not_intro (by omega)))
    refine m_run 1 (ps' := (34, [some (.inr (.inl 2)), some (.inl a), some (.inl b), some (.inl (bI r)), some (.inl n)], [.inl (-1)], mW (n, T, h, t, x) M, 0, 0)) rfl ?_
    exact m_ret1 rfl (Or.inl rfl) rfl (m_Vi (fst_end _ _).symm)
  · intro i hi1 hi2 ih 
    refine m_run 3 (ps' := (9, [some (.inr (.inl 2)), some (.inl a), some (.inl b), some (.inl (bI r)), some (.inl i)], [.inl n, .inl i], mW (n, T, h, t, x) M, 0, 0)) rfl ?_
    refine m_icmp rfl ⟨by omega, by omega⟩ ⟨by omega, by omega⟩ (fun (zc1 : n ≤ i) => absurd zc1 (by omega)) (fun (zc1 : ¬ n ≤ i) => ?_)
    refine m_run 4 (ps' := (17, [some (.inr (.inl 2)), some (.inl a), some (.inl b), some (.inl (bI r)), some (.inl i)], [.inl (bI r), .inl i, .inl a, .inr (.inl 2)], mW (n, T, h, t, x) M, 0, 0)) rfl ?_
    refine m_callVF [.inl a, .inl i, .inl (bI r)] [] rfl rfl ⟨_, rfl, rfl⟩ rfl rfl (k_side (a := a) (b := i) (r := r) hR (by omega) (by omega) (by omega) (by omega)) ?_
    have zt1 := sideS_in hR (r := r) (a := a) (x := i) (by omega) (by omega) (by omega) (by omega)
    show m_Sem X 42 (20, [some (.inr (.inl 2)), some (.inl a), some (.inl b), some (.inl (bI r)), some (.inl i)], [.inl (sideS tb r a i)], mW (n, T, h, t, x) M, 0, 0) _
    refine m_run 1 (ps' := (21, [some (.inr (.inl 2)), some (.inl a), some (.inl b), some (.inl (bI r)), some (.inl i)], [.inl b, .inl (sideS tb r a i)], mW (n, T, h, t, x) M, 0, 0)) rfl ?_
    refine m_icmp rfl ⟨by omega, by omega⟩ ⟨by omega, by omega⟩ (fun (zc2 : ¬ (sideS tb r a i) = b) => ?_) (fun (zc2 : ¬ ¬ (sideS tb r a i) = b) => ?_)
    · refine m_run 2 (ps' := (3, [some (.inr (.inl 2)), some (.inl a), some (.inl b), some (.inl (bI r)), some (.inl (i + 1))], [], mW (n, T, h, t, x) M, 0, 0)) rfl ?_
      refine m_weak [some (.inr (.inl 2)), some (.inl a), some (.inl b), some (.inl (bI r)), some (.inl (i + 1))] ⟨rfl, ⟨rfl, ⟨rfl, ⟨rfl, ⟨rfl, trivial⟩⟩⟩⟩⟩ ?_
      rw [fst_f hi2 (decide_eq_false zc2)]
      exact ih
    · replace zc2 : (sideS tb r a i) = b := Decidable.not_not.mp zc2
      refine m_run 1 (ps' := (26, [some (.inr (.inl 2)), some (.inl a), some (.inl b), some (.inl (bI r)), some (.inl i)], [.inl i], mW (n, T, h, t, x) M, 0, 0)) rfl ?_
      exact m_ret1 rfl (Or.inl rfl) rfl (m_Vi (fst_t hi2 (decide_eq_true zc2)).symm)
set_option maxHeartbeats 4000000 in
set_option maxRecDepth 100000 in
theorem k_low {X : Nat × Nat × (Nat → Int32)} {n : Int} {T : Int → Int} {h : HS} {t : TS} {x : XS} {M : MS} {tb : Int → Int → Int} {a b : Int} {r : Bool} (hR : repC n T tb) (ha : 0 ≤ a) (ha2 : a < n) (hb : 0 ≤ b) (hb2 : b < n) : m_Run X 42 [.inr (.inl 2), .inl a, .inl b, .inl (bI r)] (mW (n, T, h, t, x) M) (m_V (fstF (fun i => decide (sideS tb r a i = b)) n.toNat 0) (mW (n, T, h, t, x) M)) := by
  have hn := hR.1
  have hl := okN_lo hn
  show m_Sem X 42 (0, [some (.inr (.inl 2)), some (.inl a), some (.inl b), some (.inl (bI r)), none], [], mW (n, T, h, t, x) M, 0, 0) _
  refine m_run 2 (ps' := (3, [some (.inr (.inl 2)), some (.inl a), some (.inl b), some (.inl (bI r)), some (.inl 0)], [], mW (n, T, h, t, x) M, 0, 0)) rfl ?_
  refine m_weak [some (.inr (.inl 2)), some (.inl a), some (.inl b), some (.inl (bI r)), some (.inl 0)] ⟨rfl, ⟨rfl, ⟨rfl, ⟨rfl, ⟨rfl, trivial⟩⟩⟩⟩⟩ ?_
  have h0 := l_low (X := X) (h := h) (t := t) (x := x) (M := M) (r := r) hR ha ha2 hb hb2 0 (by omega) (by omega)
  rw [z_sub] at h0
  exact h0
theorem mul_b {x y B C : Int} (h1 : 0 ≤ x) (h2 : x ≤ B) (h3 : 0 ≤ y) (h4 : y ≤ C) : 0 ≤ x * y ∧ x * y ≤ B * C := ⟨Int.mul_nonneg h1 h3, Int.mul_le_mul h2 h4 h3 (by omega)⟩
theorem m_up_id (f : Int → Int) {j v : Int} (h : f j = v) : f = m_up f j v := by
  funext i
  unfold m_up
  split
  next hi => rw [hi, h]
  next => rfl
set_option maxHeartbeats 4000000 in
set_option maxRecDepth 100000 in
theorem k_fp {X : Nat × Nat × (Nat → Int32)} {n : Int} {T : Int → Int} {h : HS} {t : TS} {x : XS} {M : MS} {a b : Int} (hn : okN n) (ha : 0 ≤ a) (ha2 : a < n) (hb : 0 ≤ b) (hb2 : b < n) : m_Run X 50 [.inl n, .inl a, .inl b] (mW (n, T, h, t, x) M) (m_V (fpS n a b) (mW (n, T, h, t, x) M)) := by
  have hl := okN_lo hn
  have p0 := mul_b (x := a) (y := b) (B := 8) (C := 8) ha (by omega) hb (by omega)
  have p1 := mul_b (x := a / 3) (y := b % 3) (B := 2) (C := 2) (by omega) (by omega) (by omega) (by omega)
  have p2 := mul_b (x := a % 3) (y := b / 3) (B := 2) (C := 2) (by omega) (by omega) (by omega) (by omega)
  have p3 := mul_b (x := a % 3) (y := b % 3) (B := 2) (C := 2) (by omega) (by omega) (by omega) (by omega)
  have p4 := mul_b (x := a / 3) (y := b / 3) (B := 2) (C := 2) (by omega) (by omega) (by omega) (by omega)
  show m_Sem X 50 (0, [some (.inl n), some (.inl a), some (.inl b), none, none, none, none], [], mW (n, T, h, t, x) M, 0, 0) _
  refine m_run 2 (ps' := (2, [some (.inl n), some (.inl a), some (.inl b), none, none, none, none], [.inl 4, .inl n], mW (n, T, h, t, x) M, 0, 0)) rfl ?_
  refine m_icmp rfl ⟨by omega, by omega⟩ ⟨by omega, by omega⟩ (fun (zc1 : ¬ n = 4) => ?_) (fun (zc1 : ¬ ¬ n = 4) => ?_)
  · refine m_run 2 (ps' := (30, [some (.inl n), some (.inl a), some (.inl b), none, none, none, none], [.inl 9, .inl n], mW (n, T, h, t, x) M, 0, 0)) rfl ?_
    refine m_icmp rfl ⟨by omega, by omega⟩ ⟨by omega, by omega⟩ (fun (zc2 : ¬ n = 9) => ?_) (fun (zc2 : ¬ ¬ n = 9) => ?_)
    · refine m_run 1 (ps' := (84, [some (.inl n), some (.inl a), some (.inl b), none, none, none, none], [.inl n], mW (n, T, h, t, x) M, 0, 0)) rfl ?_
      refine m_if rfl ⟨by omega, by omega⟩ (fun (zc3 : n ≤ 0) => ?_) (fun (zc3 : ¬ n ≤ 0) => ?_)
      · refine m_run 1 (ps' := (96, [some (.inl n), some (.inl a), some (.inl b), none, none, none, none], [.inl 0], mW (n, T, h, t, x) M, 0, 0)) rfl ?_
        exact m_ret1 rfl (Or.inl rfl) rfl (m_Vi (by unfold fpS; (repeat' split) <;> first | rfl | omega))
      · refine m_run 4 (ps' := (91, [some (.inl n), some (.inl a), some (.inl b), none, none, none, none], [.inl n, .inl (a * b)], mW (n, T, h, t, x) M, 0, 0)) rfl ?_
        refine m_rem rfl (by omega) (by omega) (by omega) (by omega) ?_
        refine m_run 1 (ps' := (96, [some (.inl n), some (.inl a), some (.inl b), none, none, none, none], [.inl ((a * b) % n)], mW (n, T, h, t, x) M, 0, 0)) rfl ?_
        exact m_ret1 rfl (Or.inl rfl) rfl (m_Vi (by unfold fpS; (repeat' split) <;> first | rfl | omega))
    · replace zc2 : n = 9 := Decidable.not_not.mp zc2
      refine m_run 2 (ps' := (35, [some (.inl n), some (.inl a), some (.inl b), none, none, none, none], [.inl 3, .inl a], mW (n, T, h, t, x) M, 0, 0)) rfl ?_
      refine m_div rfl (by omega) (by omega) (by omega) (by omega) ?_
      refine m_run 3 (ps' := (39, [some (.inl n), some (.inl a), some (.inl b), some (.inl (a / 3)), none, none, none], [.inl 3, .inl a], mW (n, T, h, t, x) M, 0, 0)) rfl ?_
      refine m_rem rfl (by omega) (by omega) (by omega) (by omega) ?_
      refine m_run 3 (ps' := (44, [some (.inl n), some (.inl a), some (.inl b), some (.inl (a / 3)), some (.inl (a % 3)), none, none], [.inl 3, .inl b], mW (n, T, h, t, x) M, 0, 0)) rfl ?_
      refine m_div rfl (by omega) (by omega) (by omega) (by omega) ?_
      refine m_run 3 (ps' := (49, [some (.inl n), some (.inl a), some (.inl b), some (.inl (a / 3)), some (.inl (a % 3)), some (.inl (b / 3)), none], [.inl 3, .inl b], mW (n, T, h, t, x) M, 0, 0)) rfl ?_
      refine m_rem rfl (by omega) (by omega) (by omega) (by omega) ?_
      refine m_run 10 (ps' := (64, [some (.inl n), some (.inl a), some (.inl b), some (.inl (a / 3)), some (.inl (a % 3)), some (.inl (b / 3)), some (.inl (b % 3))], [.inl 3, .inl (((a / 3) * (b % 3)) + ((a % 3) * (b / 3))), .inl 3], mW (n, T, h, t, x) M, 0, 0)) rfl ?_
      refine m_rem rfl (by omega) (by omega) (by omega) (by omega) ?_
      refine m_run 11 (ps' := (80, [some (.inl n), some (.inl a), some (.inl b), some (.inl (a / 3)), some (.inl (a % 3)), some (.inl (b / 3)), some (.inl (b % 3))], [.inl 3, .inl ((((a % 3) * (b % 3)) - ((a / 3) * (b / 3))) + 6), .inl (3 * ((((a / 3) * (b % 3)) + ((a % 3) * (b / 3))) % 3))], mW (n, T, h, t, x) M, 0, 0)) rfl ?_
      refine m_rem rfl (by omega) (by omega) (by omega) (by omega) ?_
      refine m_run 1 (ps' := (82, [some (.inl n), some (.inl a), some (.inl b), some (.inl (a / 3)), some (.inl (a % 3)), some (.inl (b / 3)), some (.inl (b % 3))], [.inl ((3 * ((((a / 3) * (b % 3)) + ((a % 3) * (b / 3))) % 3)) + (((((a % 3) * (b % 3)) - ((a / 3) * (b / 3))) + 6) % 3))], mW (n, T, h, t, x) M, 0, 0)) rfl ?_
      exact m_ret1 rfl (Or.inl rfl) rfl (m_Vi (by unfold fpS; (repeat' split) <;> first | rfl | omega))
  · replace zc1 : n = 4 := Decidable.not_not.mp zc1
    refine m_run 1 (ps' := (6, [some (.inl n), some (.inl a), some (.inl b), none, none, none, none], [.inl a], mW (n, T, h, t, x) M, 0, 0)) rfl ?_
    refine m_if rfl ⟨by omega, by omega⟩ (fun (zc2 : a = 0) => ?_) (fun (zc2 : ¬ a = 0) => ?_)
    · refine m_run 2 (ps' := (26, [some (.inl n), some (.inl a), some (.inl b), none, none, none, none], [.inl 0], mW (n, T, h, t, x) M, 0, 0)) rfl ?_
      exact m_ret1 rfl (Or.inl rfl) rfl (m_Vi (by unfold fpS; (repeat' split) <;> first | rfl | omega))
    · refine m_run 1 (ps' := (10, [some (.inl n), some (.inl a), some (.inl b), none, none, none, none], [.inl b], mW (n, T, h, t, x) M, 0, 0)) rfl ?_
      refine m_if rfl ⟨by omega, by omega⟩ (fun (zc3 : ¬ b = 0) => ?_) (fun (zc3 : ¬ ¬ b = 0) => ?_)
      · refine m_run 7 (ps' := (24, [some (.inl n), some (.inl a), some (.inl b), none, none, none, none], [.inl 3, .inl ((a + b) - 2), .inl 1], mW (n, T, h, t, x) M, 0, 0)) rfl ?_
        refine m_rem rfl (by omega) (by omega) (by omega) (by omega) ?_
        refine m_run 1 (ps' := (26, [some (.inl n), some (.inl a), some (.inl b), none, none, none, none], [.inl (1 + (((a + b) - 2) % 3))], mW (n, T, h, t, x) M, 0, 0)) rfl ?_
        exact m_ret1 rfl (Or.inl rfl) rfl (m_Vi (by unfold fpS; (repeat' split) <;> first | rfl | omega))
      · replace zc3 : b = 0 := Decidable.not_not.mp zc3
        refine m_run 2 (ps' := (26, [some (.inl n), some (.inl a), some (.inl b), none, none, none, none], [.inl 0], mW (n, T, h, t, x) M, 0, 0)) rfl ?_
        exact m_ret1 rfl (Or.inl rfl) rfl (m_Vi (by unfold fpS; (repeat' split) <;> first | rfl | omega))
def sqS (n b : Int) : Bool := ! allF (fun x => ! decide (fpS n x x = b)) n.toNat 0
set_option maxHeartbeats 4000000 in
set_option maxRecDepth 100000 in
theorem l_sq {X : Nat × Nat × (Nat → Int32)} {n : Int} {T : Int → Int} {h : HS} {t : TS} {x : XS} {M : MS} {b : Int} (hn : okN n) (hb : m_R b) : ∀ i : Int, 0 ≤ i → i ≤ n → m_Sem X 49 (2, [some (.inr (.inl 2)), some (.inl b), some (.inl i)], [], mW (n, T, h, t, x) M, 0, 0) (m_V (bI (! allF (fun x => ! decide (fpS n x x = b)) (n - i).toNat i)) (mW (n, T, h, t, x) M)) := by
  have hl := okN_lo hn
  refine m_down 0 n ?_ ?_
  · show m_Sem X 49 (2, [some (.inr (.inl 2)), some (.inl b), some (.inl n)], [], mW (n, T, h, t, x) M, 0, 0) _
    refine m_run 3 (ps' := (7, [some (.inr (.inl 2)), some (.inl b), some (.inl n)], [.inl n, .inl n], mW (n, T, h, t, x) M, 0, 0)) rfl ?_
    refine m_icmp rfl ⟨by omega, by omega⟩ ⟨by omega, by omega⟩ (fun (zc1 : n ≤ n) => ?_) (fun (zc1 : ¬ n ≤ n) => absurd zc1 (not_not_intro (by omega)))
    refine m_run 1 (ps' := (32, [some (.inr (.inl 2)), some (.inl b), some (.inl n)], [.inl 0], mW (n, T, h, t, x) M, 0, 0)) rfl ?_
    exact m_ret1 rfl (Or.inr ⟨rfl, Or.inl rfl⟩) rfl (m_Vi (by rw [all_end]; rfl))
  · intro i hi1 hi2 ih 
    refine m_run 3 (ps' := (7, [some (.inr (.inl 2)), some (.inl b), some (.inl i)], [.inl n, .inl i], mW (n, T, h, t, x) M, 0, 0)) rfl ?_
    refine m_icmp rfl ⟨by omega, by omega⟩ ⟨by omega, by omega⟩ (fun (zc1 : n ≤ i) => absurd zc1 (by omega)) (fun (zc1 : ¬ n ≤ i) => ?_)
    refine m_run 4 (ps' := (16, [some (.inr (.inl 2)), some (.inl b), some (.inl i)], [.inl i, .inl i, .inl n], mW (n, T, h, t, x) M, 0, 0)) rfl ?_
    refine m_callSF [.inl n, .inl i, .inl i] [] rfl rfl rfl (k_fp (a := i) (b := i) hn (by omega) (by omega) (by omega) (by omega)) ?_
    have zt1 := fpS_in (n := n) (a := i) (b := i) hn (by omega) (by omega) (by omega) (by omega)
    show m_Sem X 49 (19, [some (.inr (.inl 2)), some (.inl b), some (.inl i)], [.inl (fpS n i i)], mW (n, T, h, t, x) M, 0, 0) _
    refine m_run 1 (ps' := (20, [some (.inr (.inl 2)), some (.inl b), some (.inl i)], [.inl b, .inl (fpS n i i)], mW (n, T, h, t, x) M, 0, 0)) rfl ?_
    refine m_icmp rfl ⟨by omega, by omega⟩ hb (fun (zc2 : ¬ (fpS n i i) = b) => ?_) (fun (zc2 : ¬ ¬ (fpS n i i) = b) => ?_)
    · refine m_run 2 (ps' := (2, [some (.inr (.inl 2)), some (.inl b), some (.inl (i + 1))], [], mW (n, T, h, t, x) M, 0, 0)) rfl ?_
      refine m_weak [some (.inr (.inl 2)), some (.inl b), some (.inl (i + 1))] ⟨rfl, ⟨rfl, ⟨rfl, trivial⟩⟩⟩ ?_
      rw [all_t hi2 (by rw [decide_eq_false zc2]; rfl)]
      exact ih
    · replace zc2 : (fpS n i i) = b := Decidable.not_not.mp zc2
      refine m_run 1 (ps' := (24, [some (.inr (.inl 2)), some (.inl b), some (.inl i)], [.inl 1], mW (n, T, h, t, x) M, 0, 0)) rfl ?_
      exact m_ret1 rfl (Or.inr ⟨rfl, Or.inr rfl⟩) rfl (m_Vi (by rw [all_f hi2 (by rw [decide_eq_true zc2]; rfl)]; rfl))
set_option maxHeartbeats 4000000 in
set_option maxRecDepth 100000 in
theorem k_sq {X : Nat × Nat × (Nat → Int32)} {n : Int} {T : Int → Int} {h : HS} {t : TS} {x : XS} {M : MS} {b : Int} (hn : okN n) (hb : m_R b) : m_Run X 49 [.inr (.inl 2), .inl b] (mW (n, T, h, t, x) M) (m_V (bI (sqS n b)) (mW (n, T, h, t, x) M)) := by
  have hl := okN_lo hn
  show m_Sem X 49 (0, [some (.inr (.inl 2)), some (.inl b), none], [], mW (n, T, h, t, x) M, 0, 0) _
  refine m_run 2 (ps' := (2, [some (.inr (.inl 2)), some (.inl b), some (.inl 0)], [], mW (n, T, h, t, x) M, 0, 0)) rfl ?_
  refine m_weak [some (.inr (.inl 2)), some (.inl b), some (.inl 0)] ⟨rfl, ⟨rfl, ⟨rfl, trivial⟩⟩⟩ ?_
  have h0 := l_sq (X := X) (T := T) (h := h) (t := t) (x := x) (M := M) hn hb 0 (by omega) (by omega)
  rw [z_sub] at h0
  exact h0
set_option maxHeartbeats 4000000 in
set_option maxRecDepth 100000 in
theorem k_set {X : Nat × Nat × (Nat → Int32)} {n : Int} {T : Int → Int} {h : HS} {t : TS} {x : XS} {M : MS} {a b r : Int} (hr : m_R r) (hT : m_R (T (9 * a + b))) (h1 : 0 ≤ 9 * a + b) (h2 : 9 * a + b < 81) (h3 : m_R a) (h4 : m_R b) : m_Run X 43 [.inr (.inl 2), .inl a, .inl b, .inl r] (mW (n, T, h, t, x) M) (m_V (if T (9 * a + b) = r then 0 else 1) (mW (n, (m_up T (9 * a + b) r), h, t, x) M)) := by
  show m_Sem X 43 (0, [some (.inr (.inl 2)), some (.inl a), some (.inl b), some (.inl r), none], [], mW (n, T, h, t, x) M, 0, 0) _
  refine m_run 7 (ps' := (10, [some (.inr (.inl 2)), some (.inl a), some (.inl b), some (.inl r), some (.inl ((9 * a) + b))], [.inl ((9 * a) + b)], mW (n, T, h, t, x) M, 0, 0)) rfl ?_
  refine m_if rfl ⟨by omega, by omega⟩ (fun (zc1 : ((9 * a) + b) < 0) => absurd zc1 (by omega)) (fun (zc1 : ¬ ((9 * a) + b) < 0) => ?_)
  refine m_run 4 (ps' := (20, [some (.inr (.inl 2)), some (.inl a), some (.inl b), some (.inl r), some (.inl ((9 * a) + b))], [.inl 81, .inl ((9 * a) + b)], mW (n, T, h, t, x) M, 0, 0)) rfl ?_
  refine m_icmp rfl ⟨by omega, by omega⟩ ⟨by omega, by omega⟩ (fun (zc2 : 81 ≤ ((9 * a) + b)) => absurd zc2 (by omega)) (fun (zc2 : ¬ 81 ≤ ((9 * a) + b)) => ?_)
  refine m_run 3 (ps' := (29, [some (.inr (.inl 2)), some (.inl a), some (.inl b), some (.inl r), some (.inl ((9 * a) + b))], [.inl ((9 * a) + b), .inr (.inl 3)], mW (n, T, h, t, x) M, 0, 0)) rfl ?_
  refine m_iald rfl rfl (by omega) (by omega) (by decide) ?_
  refine m_run 1 (ps' := (31, [some (.inr (.inl 2)), some (.inl a), some (.inl b), some (.inl r), some (.inl ((9 * a) + b))], [.inl r, .inl (T ((9 * a) + b))], mW (n, T, h, t, x) M, 0, 0)) rfl ?_
  refine m_icmp rfl hT hr (fun (zc3 : ¬ (T ((9 * a) + b)) = r) => ?_) (fun (zc3 : ¬ ¬ (T ((9 * a) + b)) = r) => ?_)
  · refine m_run 4 (ps' := (43, [some (.inr (.inl 2)), some (.inl a), some (.inl b), some (.inl r), some (.inl ((9 * a) + b))], [.inl r, .inl ((9 * a) + b), .inr (.inl 3)], mW (n, T, h, t, x) M, 0, 0)) rfl ?_
    refine m_iast rfl rfl (by omega) (by omega) (by decide) ?_
    show m_Sem X 43 (44, [some (.inr (.inl 2)), some (.inl a), some (.inl b), some (.inl r), some (.inl ((9 * a) + b))], [], mW (n, (m_up T ((9 * a) + b) r), h, t, x) M, 0, 0) _
    refine m_run 1 (ps' := (45, [some (.inr (.inl 2)), some (.inl a), some (.inl b), some (.inl r), some (.inl ((9 * a) + b))], [.inl 1], mW (n, (m_up T ((9 * a) + b) r), h, t, x) M, 0, 0)) rfl ?_
    exact m_ret1 rfl (Or.inl rfl) rfl (m_Vi (by rw [if_neg zc3]))
  · replace zc3 : (T ((9 * a) + b)) = r := Decidable.not_not.mp zc3
    refine m_run 1 (ps' := (35, [some (.inr (.inl 2)), some (.inl a), some (.inl b), some (.inl r), some (.inl ((9 * a) + b))], [.inl 0], mW (n, T, h, t, x) M, 0, 0)) rfl ?_
    exact m_ret1 rfl (Or.inl rfl) rfl (m_Vw (by rw [if_pos zc3]) (by rw [← m_up_id T zc3]))
def zeroS (n : Int) (tb : Int → Int → Int) : Int := sumF (fun a => sumF (fun b => (if tb a b = 0 then 1 else 0)) n.toNat 0) n.toNat 0
set_option maxHeartbeats 4000000 in
set_option maxRecDepth 100000 in
theorem l_zeroI {X : Nat × Nat × (Nat → Int32)} {n : Int} {T : Int → Int} {h : HS} {t : TS} {x : XS} {M : MS} {tb : Int → Int → Int} {a : Int} {Q : Option mPV → mPW → Prop} {v : Int} (hR : repC n T tb) (ha : 0 ≤ a) (ha2 : a < n) (K : m_Sem X 48 (4, [some (.inr (.inl 2)), some (.inl v), some (.inl (a + 1)), none], [], mW (n, T, h, t, x) M, 0, 0) Q) : ∀ b : Int, 0 ≤ b → b ≤ n → ∀ (u : Int) (hu : u + sumF (fun b => (if tb a b = 0 then 1 else 0)) (n - b).toNat b = v), m_Sem X 48 (14, [some (.inr (.inl 2)), some (.inl u), some (.inl a), some (.inl b)], [], mW (n, T, h, t, x) M, 0, 0) (Q) := by
  have hn := hR.1
  have hl := okN_lo hn
  refine m_down 0 n ?_ ?_
  · intro u hu
    rw [sum_end] at hu
    have hu : u = v := by omega
    subst hu
    show m_Sem X 48 (14, [some (.inr (.inl 2)), some (.inl u), some (.inl a), some (.inl n)], [], mW (n, T, h, t, x) M, 0, 0) _
    refine m_run 3 (ps' := (19, [some (.inr (.inl 2)), some (.inl u), some (.inl a), some (.inl n)], [.inl n, .inl n], mW (n, T, h, t, x) M, 0, 0)) rfl ?_
    refine m_icmp rfl ⟨by omega, by omega⟩ ⟨by omega, by omega⟩ (fun (zc1 : n ≤ n) => ?_) (fun (zc1 : ¬ n ≤ n) => absurd zc1 (not_not_intro (by omega)))
    refine m_run 2 (ps' := (4, [some (.inr (.inl 2)), some (.inl u), some (.inl (a + 1)), some (.inl n)], [], mW (n, T, h, t, x) M, 0, 0)) rfl ?_
    refine m_weak [some (.inr (.inl 2)), some (.inl u), some (.inl (a + 1)), none] ⟨rfl, ⟨rfl, ⟨rfl, trivial⟩⟩⟩ ?_
    exact K
  · intro b hi1 hi2 ih u hu
    rw [sum_step hi2] at hu
    refine m_run 3 (ps' := (19, [some (.inr (.inl 2)), some (.inl u), some (.inl a), some (.inl b)], [.inl n, .inl b], mW (n, T, h, t, x) M, 0, 0)) rfl ?_
    refine m_icmp rfl ⟨by omega, by omega⟩ ⟨by omega, by omega⟩ (fun (zc1 : n ≤ b) => absurd zc1 (by omega)) (fun (zc1 : ¬ n ≤ b) => ?_)
    refine m_run 3 (ps' := (25, [some (.inr (.inl 2)), some (.inl u), some (.inl a), some (.inl b)], [.inl b, .inl a, .inr (.inl 2)], mW (n, T, h, t, x) M, 0, 0)) rfl ?_
    refine m_callVF [.inl a, .inl b] [] rfl rfl ⟨_, rfl, rfl⟩ rfl rfl (k_times (a := a) (b := b) hR (by omega) (by omega) (by omega) (by omega)) ?_
    have zt1 := (hR.2 a b (by omega) (by omega) (by omega) (by omega)).2
    show m_Sem X 48 (28, [some (.inr (.inl 2)), some (.inl u), some (.inl a), some (.inl b)], [.inl (tb a b)], mW (n, T, h, t, x) M, 0, 0) _
    refine m_if rfl ⟨by omega, by omega⟩ (fun (zc2 : ¬ (tb a b) = 0) => ?_) (fun (zc2 : ¬ ¬ (tb a b) = 0) => ?_)
    · refine m_run 2 (ps' := (14, [some (.inr (.inl 2)), some (.inl u), some (.inl a), some (.inl (b + 1))], [], mW (n, T, h, t, x) M, 0, 0)) rfl ?_
      refine m_weak [some (.inr (.inl 2)), some (.inl u), some (.inl a), some (.inl (b + 1))] ⟨rfl, ⟨rfl, ⟨rfl, ⟨rfl, trivial⟩⟩⟩⟩ ?_
      refine ih _ ?_
      rw [← hu]
      simp only [zc2, if_true, if_false]
      omega
    · replace zc2 : (tb a b) = 0 := Decidable.not_not.mp zc2
      refine m_run 3 (ps' := (14, [some (.inr (.inl 2)), some (.inl (u + 1)), some (.inl a), some (.inl (b + 1))], [], mW (n, T, h, t, x) M, 0, 0)) rfl ?_
      refine m_weak [some (.inr (.inl 2)), some (.inl (u + 1)), some (.inl a), some (.inl (b + 1))] ⟨rfl, ⟨rfl, ⟨rfl, ⟨rfl, trivial⟩⟩⟩⟩ ?_
      refine ih _ ?_
      rw [← hu]
      simp only [zc2, if_true, if_false]
      omega
set_option maxHeartbeats 4000000 in
set_option maxRecDepth 100000 in
theorem l_zeroO {X : Nat × Nat × (Nat → Int32)} {n : Int} {T : Int → Int} {h : HS} {t : TS} {x : XS} {M : MS} {tb : Int → Int → Int} {Q : Option mPV → mPW → Prop} {v : Int} (hR : repC n T tb) (K : Q (some (.inl v)) (mW (n, T, h, t, x) M)) : ∀ a : Int, 0 ≤ a → a ≤ n → ∀ (u : Int) (hu : u + sumF (fun a => sumF (fun b => (if tb a b = 0 then 1 else 0)) n.toNat 0) (n - a).toNat a = v), m_Sem X 48 (4, [some (.inr (.inl 2)), some (.inl u), some (.inl a), none], [], mW (n, T, h, t, x) M, 0, 0) (Q) := by
  have hn := hR.1
  have hl := okN_lo hn
  refine m_down 0 n ?_ ?_
  · intro u hu
    rw [sum_end] at hu
    have hu : u = v := by omega
    subst hu
    show m_Sem X 48 (4, [some (.inr (.inl 2)), some (.inl u), some (.inl n), none], [], mW (n, T, h, t, x) M, 0, 0) _
    refine m_run 3 (ps' := (9, [some (.inr (.inl 2)), some (.inl u), some (.inl n), none], [.inl n, .inl n], mW (n, T, h, t, x) M, 0, 0)) rfl ?_
    refine m_icmp rfl ⟨by omega, by omega⟩ ⟨by omega, by omega⟩ (fun (zc1 : n ≤ n) => ?_) (fun (zc1 : ¬ n ≤ n) => absurd zc1 (not_not_intro (by omega)))
    refine m_run 1 (ps' := (47, [some (.inr (.inl 2)), some (.inl u), some (.inl n), none], [.inl u], mW (n, T, h, t, x) M, 0, 0)) rfl ?_
    exact m_ret1 rfl (Or.inl rfl) rfl K
  · intro a hi1 hi2 ih u hu
    rw [sum_step hi2] at hu
    refine m_run 3 (ps' := (9, [some (.inr (.inl 2)), some (.inl u), some (.inl a), none], [.inl n, .inl a], mW (n, T, h, t, x) M, 0, 0)) rfl ?_
    refine m_icmp rfl ⟨by omega, by omega⟩ ⟨by omega, by omega⟩ (fun (zc1 : n ≤ a) => absurd zc1 (by omega)) (fun (zc1 : ¬ n ≤ a) => ?_)
    refine m_run 2 (ps' := (14, [some (.inr (.inl 2)), some (.inl u), some (.inl a), some (.inl 0)], [], mW (n, T, h, t, x) M, 0, 0)) rfl ?_
    refine m_weak [some (.inr (.inl 2)), some (.inl u), some (.inl a), some (.inl 0)] ⟨rfl, ⟨rfl, ⟨rfl, ⟨rfl, trivial⟩⟩⟩⟩ ?_
    refine l_zeroI (v := u + sumF (fun b => (if tb a b = 0 then 1 else 0)) n.toNat 0) hR hi1 hi2 ?_ 0 (by omega) (by omega) u (by rw [z_sub])
    exact ih _ (by rw [← hu]; omega)
set_option maxHeartbeats 4000000 in
set_option maxRecDepth 100000 in
theorem k_zero {X : Nat × Nat × (Nat → Int32)} {n : Int} {T : Int → Int} {h : HS} {t : TS} {x : XS} {M : MS} {tb : Int → Int → Int} (hR : repC n T tb) : m_Run X 48 [.inr (.inl 2)] (mW (n, T, h, t, x) M) (m_V (zeroS n tb) (mW (n, T, h, t, x) M)) := by
  have hn := hR.1
  have hl := okN_lo hn
  show m_Sem X 48 (0, [some (.inr (.inl 2)), none, none, none], [], mW (n, T, h, t, x) M, 0, 0) _
  refine m_run 4 (ps' := (4, [some (.inr (.inl 2)), some (.inl 0), some (.inl 0), none], [], mW (n, T, h, t, x) M, 0, 0)) rfl ?_
  refine m_weak [some (.inr (.inl 2)), some (.inl 0), some (.inl 0), none] ⟨rfl, ⟨rfl, ⟨rfl, trivial⟩⟩⟩ ?_
  exact l_zeroO (v := zeroS n tb) hR ⟨rfl, rfl⟩ 0 (by omega) (by omega) 0 (by rw [z_sub, Int.zero_add]; rfl)
def unlS (n : Int) (tb : Int → Int → Int) : Int := sumF (fun a => sumF (fun b => (if tb a b = fpS n a b then 0 else 1)) n.toNat 0) n.toNat 0
set_option maxHeartbeats 4000000 in
set_option maxRecDepth 100000 in
theorem l_unlI {X : Nat × Nat × (Nat → Int32)} {n : Int} {T : Int → Int} {h : HS} {t : TS} {x : XS} {M : MS} {tb : Int → Int → Int} {a : Int} {Q : Option mPV → mPW → Prop} {v : Int} (hR : repC n T tb) (ha : 0 ≤ a) (ha2 : a < n) (K : m_Sem X 47 (4, [some (.inr (.inl 2)), some (.inl v), some (.inl (a + 1)), none], [], mW (n, T, h, t, x) M, 0, 0) Q) : ∀ b : Int, 0 ≤ b → b ≤ n → ∀ (u : Int) (hu : u + sumF (fun b => (if tb a b = fpS n a b then 0 else 1)) (n - b).toNat b = v), m_Sem X 47 (14, [some (.inr (.inl 2)), some (.inl u), some (.inl a), some (.inl b)], [], mW (n, T, h, t, x) M, 0, 0) (Q) := by
  have hn := hR.1
  have hl := okN_lo hn
  refine m_down 0 n ?_ ?_
  · intro u hu
    rw [sum_end] at hu
    have hu : u = v := by omega
    subst hu
    show m_Sem X 47 (14, [some (.inr (.inl 2)), some (.inl u), some (.inl a), some (.inl n)], [], mW (n, T, h, t, x) M, 0, 0) _
    refine m_run 3 (ps' := (19, [some (.inr (.inl 2)), some (.inl u), some (.inl a), some (.inl n)], [.inl n, .inl n], mW (n, T, h, t, x) M, 0, 0)) rfl ?_
    refine m_icmp rfl ⟨by omega, by omega⟩ ⟨by omega, by omega⟩ (fun (zc1 : n ≤ n) => ?_) (fun (zc1 : ¬ n ≤ n) => absurd zc1 (not_not_intro (by omega)))
    refine m_run 2 (ps' := (4, [some (.inr (.inl 2)), some (.inl u), some (.inl (a + 1)), some (.inl n)], [], mW (n, T, h, t, x) M, 0, 0)) rfl ?_
    refine m_weak [some (.inr (.inl 2)), some (.inl u), some (.inl (a + 1)), none] ⟨rfl, ⟨rfl, ⟨rfl, trivial⟩⟩⟩ ?_
    exact K
  · intro b hi1 hi2 ih u hu
    rw [sum_step hi2] at hu
    refine m_run 3 (ps' := (19, [some (.inr (.inl 2)), some (.inl u), some (.inl a), some (.inl b)], [.inl n, .inl b], mW (n, T, h, t, x) M, 0, 0)) rfl ?_
    refine m_icmp rfl ⟨by omega, by omega⟩ ⟨by omega, by omega⟩ (fun (zc1 : n ≤ b) => absurd zc1 (by omega)) (fun (zc1 : ¬ n ≤ b) => ?_)
    refine m_run 3 (ps' := (25, [some (.inr (.inl 2)), some (.inl u), some (.inl a), some (.inl b)], [.inl b, .inl a, .inr (.inl 2)], mW (n, T, h, t, x) M, 0, 0)) rfl ?_
    refine m_callVF [.inl a, .inl b] [] rfl rfl ⟨_, rfl, rfl⟩ rfl rfl (k_times (a := a) (b := b) hR (by omega) (by omega) (by omega) (by omega)) ?_
    have zt1 := (hR.2 a b (by omega) (by omega) (by omega) (by omega)).2
    show m_Sem X 47 (28, [some (.inr (.inl 2)), some (.inl u), some (.inl a), some (.inl b)], [.inl (tb a b)], mW (n, T, h, t, x) M, 0, 0) _
    refine m_run 4 (ps' := (34, [some (.inr (.inl 2)), some (.inl u), some (.inl a), some (.inl b)], [.inl b, .inl a, .inl n, .inl (tb a b)], mW (n, T, h, t, x) M, 0, 0)) rfl ?_
    refine m_callSF [.inl n, .inl a, .inl b] [.inl (tb a b)] rfl rfl rfl (k_fp (a := a) (b := b) hn (by omega) (by omega) (by omega) (by omega)) ?_
    have zt2 := fpS_in (n := n) (a := a) (b := b) hn (by omega) (by omega) (by omega) (by omega)
    show m_Sem X 47 (37, [some (.inr (.inl 2)), some (.inl u), some (.inl a), some (.inl b)], [.inl (fpS n a b), .inl (tb a b)], mW (n, T, h, t, x) M, 0, 0) _
    refine m_icmp rfl ⟨by omega, by omega⟩ ⟨by omega, by omega⟩ (fun (zc2 : (tb a b) = (fpS n a b)) => ?_) (fun (zc2 : ¬ (tb a b) = (fpS n a b)) => ?_)
    · refine m_run 2 (ps' := (14, [some (.inr (.inl 2)), some (.inl u), some (.inl a), some (.inl (b + 1))], [], mW (n, T, h, t, x) M, 0, 0)) rfl ?_
      refine m_weak [some (.inr (.inl 2)), some (.inl u), some (.inl a), some (.inl (b + 1))] ⟨rfl, ⟨rfl, ⟨rfl, ⟨rfl, trivial⟩⟩⟩⟩ ?_
      refine ih _ ?_
      rw [← hu]
      simp only [zc2, if_true, if_false]
      omega
    · refine m_run 3 (ps' := (14, [some (.inr (.inl 2)), some (.inl (u + 1)), some (.inl a), some (.inl (b + 1))], [], mW (n, T, h, t, x) M, 0, 0)) rfl ?_
      refine m_weak [some (.inr (.inl 2)), some (.inl (u + 1)), some (.inl a), some (.inl (b + 1))] ⟨rfl, ⟨rfl, ⟨rfl, ⟨rfl, trivial⟩⟩⟩⟩ ?_
      refine ih _ ?_
      rw [← hu]
      simp only [zc2, if_true, if_false]
      omega
set_option maxHeartbeats 4000000 in
set_option maxRecDepth 100000 in
theorem l_unlO {X : Nat × Nat × (Nat → Int32)} {n : Int} {T : Int → Int} {h : HS} {t : TS} {x : XS} {M : MS} {tb : Int → Int → Int} {Q : Option mPV → mPW → Prop} {v : Int} (hR : repC n T tb) (K : Q (some (.inl v)) (mW (n, T, h, t, x) M)) : ∀ a : Int, 0 ≤ a → a ≤ n → ∀ (u : Int) (hu : u + sumF (fun a => sumF (fun b => (if tb a b = fpS n a b then 0 else 1)) n.toNat 0) (n - a).toNat a = v), m_Sem X 47 (4, [some (.inr (.inl 2)), some (.inl u), some (.inl a), none], [], mW (n, T, h, t, x) M, 0, 0) (Q) := by
  have hn := hR.1
  have hl := okN_lo hn
  refine m_down 0 n ?_ ?_
  · intro u hu
    rw [sum_end] at hu
    have hu : u = v := by omega
    subst hu
    show m_Sem X 47 (4, [some (.inr (.inl 2)), some (.inl u), some (.inl n), none], [], mW (n, T, h, t, x) M, 0, 0) _
    refine m_run 3 (ps' := (9, [some (.inr (.inl 2)), some (.inl u), some (.inl n), none], [.inl n, .inl n], mW (n, T, h, t, x) M, 0, 0)) rfl ?_
    refine m_icmp rfl ⟨by omega, by omega⟩ ⟨by omega, by omega⟩ (fun (zc1 : n ≤ n) => ?_) (fun (zc1 : ¬ n ≤ n) => absurd zc1 (not_not_intro (by omega)))
    refine m_run 1 (ps' := (56, [some (.inr (.inl 2)), some (.inl u), some (.inl n), none], [.inl u], mW (n, T, h, t, x) M, 0, 0)) rfl ?_
    exact m_ret1 rfl (Or.inl rfl) rfl K
  · intro a hi1 hi2 ih u hu
    rw [sum_step hi2] at hu
    refine m_run 3 (ps' := (9, [some (.inr (.inl 2)), some (.inl u), some (.inl a), none], [.inl n, .inl a], mW (n, T, h, t, x) M, 0, 0)) rfl ?_
    refine m_icmp rfl ⟨by omega, by omega⟩ ⟨by omega, by omega⟩ (fun (zc1 : n ≤ a) => absurd zc1 (by omega)) (fun (zc1 : ¬ n ≤ a) => ?_)
    refine m_run 2 (ps' := (14, [some (.inr (.inl 2)), some (.inl u), some (.inl a), some (.inl 0)], [], mW (n, T, h, t, x) M, 0, 0)) rfl ?_
    refine m_weak [some (.inr (.inl 2)), some (.inl u), some (.inl a), some (.inl 0)] ⟨rfl, ⟨rfl, ⟨rfl, ⟨rfl, trivial⟩⟩⟩⟩ ?_
    refine l_unlI (v := u + sumF (fun b => (if tb a b = fpS n a b then 0 else 1)) n.toNat 0) hR hi1 hi2 ?_ 0 (by omega) (by omega) u (by rw [z_sub])
    exact ih _ (by rw [← hu]; omega)
set_option maxHeartbeats 4000000 in
set_option maxRecDepth 100000 in
theorem k_unl {X : Nat × Nat × (Nat → Int32)} {n : Int} {T : Int → Int} {h : HS} {t : TS} {x : XS} {M : MS} {tb : Int → Int → Int} (hR : repC n T tb) : m_Run X 47 [.inr (.inl 2)] (mW (n, T, h, t, x) M) (m_V (unlS n tb) (mW (n, T, h, t, x) M)) := by
  have hn := hR.1
  have hl := okN_lo hn
  show m_Sem X 47 (0, [some (.inr (.inl 2)), none, none, none], [], mW (n, T, h, t, x) M, 0, 0) _
  refine m_run 4 (ps' := (4, [some (.inr (.inl 2)), some (.inl 0), some (.inl 0), none], [], mW (n, T, h, t, x) M, 0, 0)) rfl ?_
  refine m_weak [some (.inr (.inl 2)), some (.inl 0), some (.inl 0), none] ⟨rfl, ⟨rfl, ⟨rfl, trivial⟩⟩⟩ ?_
  exact l_unlO (v := unlS n tb) hR ⟨rfl, rfl⟩ 0 (by omega) (by omega) 0 (by rw [z_sub, Int.zero_add]; rfl)
/-- all places of the table hold small numbers, also those that are not in use -/
def okT (T : Int → Int) : Prop := ∀ j, 0 ≤ j → j < 81 → 0 ≤ T j ∧ T j < 9
theorem okT_up {T : Int → Int} (hT : okT T) {j v : Int} (h1 : 0 ≤ v) (h2 : v < 9) : okT (m_up T j v) := by
  intro i h3 h4
  unfold m_up
  split
  · exact ⟨h1, h2⟩
  · exact hT i h3 h4
def fill (n : Int) (F : Int → Int → Int) (T : Int → Int) (a b : Int) : Prop := ∀ a' b', 0 ≤ a' → 0 ≤ b' → b' < n → (a' < a ∨ (a' = a ∧ b' < b)) → T (9 * a' + b') = F a' b'
theorem fill_0 {n : Int} {F : Int → Int → Int} {T : Int → Int} : fill n F T 0 0 := fun a' b' h1 h2 h3 h4 => absurd h4 (by omega)
theorem fill_s {n : Int} {F : Int → Int → Int} {T : Int → Int} {a b v : Int} (h : fill n F T a b) (h1 : 0 ≤ b) (h2 : b < n) (h3 : n ≤ 9) (hv : v = F a b) : fill n F (m_up T (9 * a + b) v) a (b + 1) := by
  intro a' b' g1 g2 g3 g4
  by_cases he : 9 * a' + b' = 9 * a + b
  · rw [he, m_up_s, hv, show a' = a by omega, show b' = b by omega]
  · rw [m_up_n T v he]
    exact h a' b' g1 g2 g3 (by omega)
theorem fill_r {n : Int} {F : Int → Int → Int} {T : Int → Int} {a : Int} (h : fill n F T a n) : fill n F T (a + 1) 0 := fun a' b' g1 g2 g3 g4 => h a' b' g1 g2 g3 (by omega)
theorem fill_e {n : Int} {F : Int → Int → Int} {T : Int → Int} (h : fill n F T n 0) : ∀ a b, 0 ≤ a → a < n → 0 ≤ b → b < n → T (9 * a + b) = F a b := fun a b h1 h2 h3 h4 => h a b h1 h3 h4 (Or.inl h2)
set_option maxHeartbeats 4000000 in
set_option maxRecDepth 100000 in
theorem l_bfI {X : Nat × Nat × (Nat → Int32)} {n : Int} {h : HS} {t : TS} {x : XS} {M : MS} {a : Int} {Q : Option mPV → mPW → Prop} (hn : okN n) (ha : 0 ≤ a) (ha2 : a < n) (K : ∀ T : Int → Int, okT T → fill n (fpS n) T (a + 1) 0 → m_Sem X 44 (7, [some (.inr (.inl 2)), some (.inl n), some (.inl (a + 1)), none], [], mW (n, T, h, t, x) M, 0, 0) Q) : ∀ b : Int, 0 ≤ b → b ≤ n → ∀ (T : Int → Int) (hT : okT T) (hf : fill n (fpS n) T a b), m_Sem X 44 (14, [some (.inr (.inl 2)), some (.inl n), some (.inl a), some (.inl b)], [], mW (n, T, h, t, x) M, 0, 0) (Q) := by
  have hl := okN_lo hn
  refine m_down 0 n ?_ ?_
  · intro T hT hf
    show m_Sem X 44 (14, [some (.inr (.inl 2)), some (.inl n), some (.inl a), some (.inl n)], [], mW (n, T, h, t, x) M, 0, 0) _
    refine m_run 2 (ps' := (16, [some (.inr (.inl 2)), some (.inl n), some (.inl a), some (.inl n)], [.inl n, .inl n], mW (n, T, h, t, x) M, 0, 0)) rfl ?_
    refine m_icmp rfl ⟨by omega, by omega⟩ ⟨by omega, by omega⟩ (fun (zc1 : n ≤ n) => ?_) (fun (zc1 : ¬ n ≤ n) => absurd zc1 (not_not_intro (by omega)))
    refine m_run 2 (ps' := (7, [some (.inr (.inl 2)), some (.inl n), some (.inl (a + 1)), some (.inl n)], [], mW (n, T, h, t, x) M, 0, 0)) rfl ?_
    refine m_weak [some (.inr (.inl 2)), some (.inl n), some (.inl (a + 1)), none] ⟨rfl, ⟨rfl, ⟨rfl, trivial⟩⟩⟩ ?_
    exact K T hT (fill_r hf)
  · intro b hi1 hi2 ih T hT hf
    have hp := hT (9 * a + b) (by omega) (by omega)
    refine m_run 2 (ps' := (16, [some (.inr (.inl 2)), some (.inl n), some (.inl a), some (.inl b)], [.inl n, .inl b], mW (n, T, h, t, x) M, 0, 0)) rfl ?_
    refine m_icmp rfl ⟨by omega, by omega⟩ ⟨by omega, by omega⟩ (fun (zc1 : n ≤ b) => absurd zc1 (by omega)) (fun (zc1 : ¬ n ≤ b) => ?_)
    refine m_run 6 (ps' := (25, [some (.inr (.inl 2)), some (.inl n), some (.inl a), some (.inl b)], [.inl b, .inl a, .inl n, .inl b, .inl a, .inr (.inl 2)], mW (n, T, h, t, x) M, 0, 0)) rfl ?_
    refine m_callSF [.inl n, .inl a, .inl b] [.inl b, .inl a, .inr (.inl 2)] rfl rfl rfl (k_fp (a := a) (b := b) hn (by omega) (by omega) (by omega) (by omega)) ?_
    have zt1 := fpS_in (n := n) (a := a) (b := b) hn (by omega) (by omega) (by omega) (by omega)
    show m_Sem X 44 (28, [some (.inr (.inl 2)), some (.inl n), some (.inl a), some (.inl b)], [.inl (fpS n a b), .inl b, .inl a, .inr (.inl 2)], mW (n, T, h, t, x) M, 0, 0) _
    refine m_callVF [.inl a, .inl b, .inl (fpS n a b)] [] rfl rfl ⟨_, rfl, rfl⟩ rfl rfl (k_set (T := T) (a := a) (b := b) (r := (fpS n a b)) ⟨by omega, by omega⟩ ⟨by omega, by omega⟩ (by omega) (by omega) ⟨by omega, by omega⟩ ⟨by omega, by omega⟩) ?_
    show m_Sem X 44 (31, [some (.inr (.inl 2)), some (.inl n), some (.inl a), some (.inl b)], [.inl (if T (9 * a + b) = (fpS n a b) then 0 else 1)], mW (n, (m_up T (9 * a + b) (fpS n a b)), h, t, x) M, 0, 0) _
    refine m_run 3 (ps' := (14, [some (.inr (.inl 2)), some (.inl n), some (.inl a), some (.inl (b + 1))], [], mW (n, (m_up T (9 * a + b) (fpS n a b)), h, t, x) M, 0, 0)) rfl ?_
    refine m_weak [some (.inr (.inl 2)), some (.inl n), some (.inl a), some (.inl (b + 1))] ⟨rfl, ⟨rfl, ⟨rfl, ⟨rfl, trivial⟩⟩⟩⟩ ?_
    exact ih _ (okT_up hT (by omega) (by omega)) (fill_s hf hi1 hi2 (by omega) rfl)
set_option maxHeartbeats 4000000 in
set_option maxRecDepth 100000 in
theorem l_bfO {X : Nat × Nat × (Nat → Int32)} {n : Int} {h : HS} {t : TS} {x : XS} {M : MS} {Q : Option mPV → mPW → Prop} (hn : okN n) (K : ∀ T : Int → Int, okT T → fill n (fpS n) T n 0 → Q none (mW (n, T, h, t, x) M)) : ∀ a : Int, 0 ≤ a → a ≤ n → ∀ (T : Int → Int) (hT : okT T) (hf : fill n (fpS n) T a 0), m_Sem X 44 (7, [some (.inr (.inl 2)), some (.inl n), some (.inl a), none], [], mW (n, T, h, t, x) M, 0, 0) (Q) := by
  have hl := okN_lo hn
  refine m_down 0 n ?_ ?_
  · intro T hT hf
    show m_Sem X 44 (7, [some (.inr (.inl 2)), some (.inl n), some (.inl n), none], [], mW (n, T, h, t, x) M, 0, 0) _
    refine m_run 2 (ps' := (9, [some (.inr (.inl 2)), some (.inl n), some (.inl n), none], [.inl n, .inl n], mW (n, T, h, t, x) M, 0, 0)) rfl ?_
    refine m_icmp rfl ⟨by omega, by omega⟩ ⟨by omega, by omega⟩ (fun (zc1 : n ≤ n) => ?_) (fun (zc1 : ¬ n ≤ n) => absurd zc1 (not_not_intro (by omega)))
    exact m_ret0 rfl rfl rfl (K T hT hf)
  · intro a hi1 hi2 ih T hT hf
    refine m_run 2 (ps' := (9, [some (.inr (.inl 2)), some (.inl n), some (.inl a), none], [.inl n, .inl a], mW (n, T, h, t, x) M, 0, 0)) rfl ?_
    refine m_icmp rfl ⟨by omega, by omega⟩ ⟨by omega, by omega⟩ (fun (zc1 : n ≤ a) => absurd zc1 (by omega)) (fun (zc1 : ¬ n ≤ a) => ?_)
    refine m_run 2 (ps' := (14, [some (.inr (.inl 2)), some (.inl n), some (.inl a), some (.inl 0)], [], mW (n, T, h, t, x) M, 0, 0)) rfl ?_
    refine m_weak [some (.inr (.inl 2)), some (.inl n), some (.inl a), some (.inl 0)] ⟨rfl, ⟨rfl, ⟨rfl, ⟨rfl, trivial⟩⟩⟩⟩ ?_
    exact l_bfI hn hi1 hi2 ih 0 (by omega) (by omega) T hT hf
set_option maxHeartbeats 4000000 in
set_option maxRecDepth 100000 in
theorem k_bf {X : Nat × Nat × (Nat → Int32)} {n : Int} {h : HS} {t : TS} {x : XS} {M : MS} {n0 : Int} {T : Int → Int} (hn : okN n) (hT : okT T) : m_Run X 44 [.inr (.inl 2), .inl n] (mW (n0, T, h, t, x) M) (fun r w => r = none ∧ ∃ T2, w = mW (n, T2, h, t, x) M ∧ okT T2 ∧ ∀ a b, 0 ≤ a → a < n → 0 ≤ b → b < n → T2 (9 * a + b) = fpS n a b) := by
  have hl := okN_lo hn
  show m_Sem X 44 (0, [some (.inr (.inl 2)), some (.inl n), none, none], [], mW (n0, T, h, t, x) M, 0, 0) _
  refine m_run 5 (ps' := (7, [some (.inr (.inl 2)), some (.inl n), some (.inl 0), none], [], mW (n, T, h, t, x) M, 0, 0)) rfl ?_
  refine m_weak [some (.inr (.inl 2)), some (.inl n), some (.inl 0), none] ⟨rfl, ⟨rfl, ⟨rfl, trivial⟩⟩⟩ ?_
  exact l_bfO hn (fun T2 hT2 hf => ⟨rfl, T2, rfl, hT2, fill_e hf⟩) 0 (by omega) (by omega) T hT fill_0
def cubeS (a : Int) : Int := fpS 9 (fpS 9 a a) a
def twS (a b : Int) : Int := fpS 9 (bif sqS 9 b then a else cubeS a) b
/-- by columns -/
def fillT (F : Int → Int → Int) (tb : Int → Int → Int) (T : Int → Int) (b a : Int) : Prop := ∀ a' b', 0 ≤ a' → a' < 9 → 0 ≤ b' → b' < 9 → T (9 * a' + b') = if b' < b ∨ (b' = b ∧ a' < a) then F a' b' else tb a' b'
theorem fillT_s {F tb : Int → Int → Int} {T : Int → Int} {a b v : Int} (h : fillT F tb T b a) (h1 : 0 ≤ a) (h2 : a < 9) (h3 : 0 ≤ b) (h4 : b < 9) (hv : v = F a b) : fillT F tb (m_up T (9 * a + b) v) b (a + 1) := by
  intro a' b' g1 g2 g3 g4
  by_cases he : 9 * a' + b' = 9 * a + b
  · have e1 : a' = a := by omega
    have e2 : b' = b := by omega
    rw [he, m_up_s, hv, e1, e2, if_pos (by omega)]
  · rw [m_up_n T v he, h a' b' g1 g2 g3 g4]
    by_cases hc : b' < b ∨ (b' = b ∧ a' < a)
    · rw [if_pos hc, if_pos (by omega)]
    · rw [if_neg hc, if_neg (by omega)]
theorem fillT_r {F tb : Int → Int → Int} {T : Int → Int} {b : Int} (h : fillT F tb T b 9) : fillT F tb T (b + 1) 0 := by
  intro a' b' g1 g2 g3 g4
  rw [h a' b' g1 g2 g3 g4]
  by_cases hc : b' < b ∨ (b' = b ∧ a' < 9)
  · rw [if_pos hc, if_pos (by omega)]
  · rw [if_neg hc, if_neg (by omega)]
theorem cubeS_in {a : Int} (h1 : 0 ≤ a) (h2 : a < 9) : 0 ≤ cubeS a ∧ cubeS a < 9 := by
  have hn : okN 9 := by unfold okN; omega
  have h3 := fpS_in (n := 9) (a := a) (b := a) hn h1 h2 h1 h2
  exact fpS_in (n := 9) hn h3.1 h3.2 h1 h2
def twR (tb : Int → Int → Int) (b : Int) : Int := sumF (fun a => if tb a b = twS a b then 0 else 1) 9 0
def twC (tb : Int → Int → Int) : Int := sumF (twR tb) 9 0
set_option maxHeartbeats 4000000 in
set_option maxRecDepth 100000 in
theorem l_btI {X : Nat × Nat × (Nat → Int32)} {h : HS} {t : TS} {x : XS} {M : MS} {tb : Int → Int → Int} {b : Int} {Q : Option mPV → mPW → Prop} {v : Int} (hb : 0 ≤ b) (hb2 : b < 9) (K : ∀ T : Int → Int, okT T → fillT twS tb T (b + 1) 0 → m_Sem X 45 (4, [some (.inr (.inl 2)), some (.inl v), some (.inl (b + 1)), none, none, none], [], mW (9, T, h, t, x) M, 0, 0) Q) : ∀ a : Int, 0 ≤ a → a ≤ 9 → ∀ (T : Int → Int) (u : Int) (hT : okT T) (hf : fillT twS tb T b a) (hu : u + sumF (fun a => if tb a b = twS a b then 0 else 1) (9 - a).toNat a = v), m_Sem X 45 (21, [some (.inr (.inl 2)), some (.inl u), some (.inl b), some (.inl (bI (sqS 9 b))), some (.inl a), none], [], mW (9, T, h, t, x) M, 0, 0) (Q) := by
  have hn : okN 9 := by unfold okN; omega
  refine m_down 0 9 ?_ ?_
  · intro T u hT hf hu
    rw [sum_end] at hu
    have hu : u = v := by omega
    subst hu
    show m_Sem X 45 (21, [some (.inr (.inl 2)), some (.inl u), some (.inl b), some (.inl (bI (sqS 9 b))), some (.inl 9), none], [], mW (9, T, h, t, x) M, 0, 0) _
    refine m_run 3 (ps' := (27, [some (.inr (.inl 2)), some (.inl u), some (.inl b), some (.inl (bI (sqS 9 b))), some (.inl 9), none], [.inl 9, .inl 9], mW (9, T, h, t, x) M, 0, 0)) rfl ?_
    refine m_icmp rfl ⟨by omega, by omega⟩ ⟨by omega, by omega⟩ (fun (zc1 : 9 ≤ 9) => ?_) (fun (zc1 : ¬ 9 ≤ 9) => absurd zc1 (not_not_intro (by omega)))
    refine m_run 2 (ps' := (4, [some (.inr (.inl 2)), some (.inl u), some (.inl (b + 1)), some (.inl (bI (sqS 9 b))), some (.inl 9), none], [], mW (9, T, h, t, x) M, 0, 0)) rfl ?_
    refine m_weak [some (.inr (.inl 2)), some (.inl u), some (.inl (b + 1)), none, none, none] ⟨rfl, ⟨rfl, ⟨rfl, trivial⟩⟩⟩ ?_
    exact K T hT (fillT_r hf)
  · intro a hi1 hi2 ih T u hT hf hu
    rw [sum_step hi2] at hu
    have hp := hT (9 * a + b) (by omega) (by omega)
    have hpe := hf a b hi1 hi2 hb hb2
    rw [if_neg (by omega)] at hpe
    have zt0 := cubeS_in hi1 hi2
    refine m_run 3 (ps' := (27, [some (.inr (.inl 2)), some (.inl u), some (.inl b), some (.inl (bI (sqS 9 b))), some (.inl a), none], [.inl 9, .inl a], mW (9, T, h, t, x) M, 0, 0)) rfl ?_
    refine m_icmp rfl ⟨by omega, by omega⟩ ⟨by omega, by omega⟩ (fun (zc1 : 9 ≤ a) => absurd zc1 (by omega)) (fun (zc1 : ¬ 9 ≤ a) => ?_)
    refine m_run 6 (ps' := (42, [some (.inr (.inl 2)), some (.inl u), some (.inl b), some (.inl (bI (sqS 9 b))), some (.inl a), none], [.inl a, .inl a, .inl 9, .inl 9], mW (9, T, h, t, x) M, 0, 0)) rfl ?_
    refine m_callSF [.inl 9, .inl a, .inl a] [.inl 9] rfl rfl rfl (k_fp (a := a) (b := a) hn (by omega) (by omega) (by omega) (by omega)) ?_
    have zt1 := fpS_in (n := 9) (a := a) (b := a) hn (by omega) (by omega) (by omega) (by omega)
    show m_Sem X 45 (45, [some (.inr (.inl 2)), some (.inl u), some (.inl b), some (.inl (bI (sqS 9 b))), some (.inl a), none], [.inl (fpS 9 a a), .inl 9], mW (9, T, h, t, x) M, 0, 0) _
    refine m_run 1 (ps' := (47, [some (.inr (.inl 2)), some (.inl u), some (.inl b), some (.inl (bI (sqS 9 b))), some (.inl a), none], [.inl a, .inl (fpS 9 a a), .inl 9], mW (9, T, h, t, x) M, 0, 0)) rfl ?_
    refine m_callSF [.inl 9, .inl (fpS 9 a a), .inl a] [] rfl rfl rfl (k_fp (a := (fpS 9 a a)) (b := a) hn (by omega) (by omega) (by omega) (by omega)) ?_
    have zt2 := fpS_in (n := 9) (a := (fpS 9 a a)) (b := a) hn (by omega) (by omega) (by omega) (by omega)
    show m_Sem X 45 (50, [some (.inr (.inl 2)), some (.inl u), some (.inl b), some (.inl (bI (sqS 9 b))), some (.inl a), none], [.inl (fpS 9 (fpS 9 a a) a)], mW (9, T, h, t, x) M, 0, 0) _
    refine m_run 8 (ps' := (62, [some (.inr (.inl 2)), some (.inl u), some (.inl b), some (.inl (bI (sqS 9 b))), some (.inl a), some (.inl (fpS 9 (fpS 9 a a) a))], [.inl (bI (sqS 9 b)), .inl 9, .inl b, .inl a, .inr (.inl 2), .inl u], mW (9, T, h, t, x) M, 0, 0)) rfl ?_
    refine m_if rfl (bI_R (sqS 9 b)) (fun (zc2 : (bI (sqS 9 b)) = 0) => ?_) (fun (zc2 : ¬ (bI (sqS 9 b)) = 0) => ?_)
    · replace zc2 : (sqS 9 b) = false := bI_e0.mp zc2
      refine m_run 2 (ps' := (73, [some (.inr (.inl 2)), some (.inl u), some (.inl b), some (.inl (bI (sqS 9 b))), some (.inl a), some (.inl (fpS 9 (fpS 9 a a) a))], [.inl b, .inl (fpS 9 (fpS 9 a a) a), .inl 9, .inl b, .inl a, .inr (.inl 2), .inl u], mW (9, T, h, t, x) M, 0, 0)) rfl ?_
      refine m_callSF [.inl 9, .inl (fpS 9 (fpS 9 a a) a), .inl b] [.inl b, .inl a, .inr (.inl 2), .inl u] rfl rfl rfl (k_fp (a := (fpS 9 (fpS 9 a a) a)) (b := b) hn (by omega) (by omega) (by omega) (by omega)) ?_
      have zt3 := fpS_in (n := 9) (a := (fpS 9 (fpS 9 a a) a)) (b := b) hn (by omega) (by omega) (by omega) (by omega)
      show m_Sem X 45 (76, [some (.inr (.inl 2)), some (.inl u), some (.inl b), some (.inl (bI (sqS 9 b))), some (.inl a), some (.inl (fpS 9 (fpS 9 a a) a))], [.inl (fpS 9 (fpS 9 (fpS 9 a a) a) b), .inl b, .inl a, .inr (.inl 2), .inl u], mW (9, T, h, t, x) M, 0, 0) _
      refine m_callVF [.inl a, .inl b, .inl (fpS 9 (fpS 9 (fpS 9 a a) a) b)] [.inl u] rfl rfl ⟨_, rfl, rfl⟩ rfl rfl (k_set (T := T) (a := a) (b := b) (r := (fpS 9 (fpS 9 (fpS 9 a a) a) b)) ⟨by omega, by omega⟩ ⟨by omega, by omega⟩ (by omega) (by omega) ⟨by omega, by omega⟩ ⟨by omega, by omega⟩) ?_
      show m_Sem X 45 (79, [some (.inr (.inl 2)), some (.inl u), some (.inl b), some (.inl (bI (sqS 9 b))), some (.inl a), some (.inl (fpS 9 (fpS 9 a a) a))], [.inl (if T (9 * a + b) = (fpS 9 (fpS 9 (fpS 9 a a) a) b) then 0 else 1), .inl u], mW (9, (m_up T (9 * a + b) (fpS 9 (fpS 9 (fpS 9 a a) a) b)), h, t, x) M, 0, 0) _
      refine m_run 4 (ps' := (21, [some (.inr (.inl 2)), some (.inl (u + (if T (9 * a + b) = (fpS 9 (fpS 9 (fpS 9 a a) a) b) then 0 else 1))), some (.inl b), some (.inl (bI (sqS 9 b))), some (.inl (a + 1)), some (.inl (fpS 9 (fpS 9 a a) a))], [], mW (9, (m_up T (9 * a + b) (fpS 9 (fpS 9 (fpS 9 a a) a) b)), h, t, x) M, 0, 0)) rfl ?_
      refine m_weak [some (.inr (.inl 2)), some (.inl (u + (if T (9 * a + b) = (fpS 9 (fpS 9 (fpS 9 a a) a) b) then 0 else 1))), some (.inl b), some (.inl (bI (sqS 9 b))), some (.inl (a + 1)), none] ⟨rfl, ⟨rfl, ⟨rfl, ⟨rfl, ⟨rfl, trivial⟩⟩⟩⟩⟩ ?_
      have htw : twS a b = fpS 9 (bif sqS 9 b then a else cubeS a) b := rfl
      rw [zc2] at htw
      simp only [cond_true, cond_false, cubeS] at htw
      refine ih _ _ (okT_up hT (by omega) (by omega)) (fillT_s hf hi1 hi2 hb hb2 htw.symm) ?_
      rw [← hu, hpe, htw]
      omega
    · replace zc2 : (sqS 9 b) = true := bI_n0.mp zc2
      refine m_run 3 (ps' := (73, [some (.inr (.inl 2)), some (.inl u), some (.inl b), some (.inl (bI (sqS 9 b))), some (.inl a), some (.inl (fpS 9 (fpS 9 a a) a))], [.inl b, .inl a, .inl 9, .inl b, .inl a, .inr (.inl 2), .inl u], mW (9, T, h, t, x) M, 0, 0)) rfl ?_
      refine m_callSF [.inl 9, .inl a, .inl b] [.inl b, .inl a, .inr (.inl 2), .inl u] rfl rfl rfl (k_fp (a := a) (b := b) hn (by omega) (by omega) (by omega) (by omega)) ?_
      have zt3 := fpS_in (n := 9) (a := a) (b := b) hn (by omega) (by omega) (by omega) (by omega)
      show m_Sem X 45 (76, [some (.inr (.inl 2)), some (.inl u), some (.inl b), some (.inl (bI (sqS 9 b))), some (.inl a), some (.inl (fpS 9 (fpS 9 a a) a))], [.inl (fpS 9 a b), .inl b, .inl a, .inr (.inl 2), .inl u], mW (9, T, h, t, x) M, 0, 0) _
      refine m_callVF [.inl a, .inl b, .inl (fpS 9 a b)] [.inl u] rfl rfl ⟨_, rfl, rfl⟩ rfl rfl (k_set (T := T) (a := a) (b := b) (r := (fpS 9 a b)) ⟨by omega, by omega⟩ ⟨by omega, by omega⟩ (by omega) (by omega) ⟨by omega, by omega⟩ ⟨by omega, by omega⟩) ?_
      show m_Sem X 45 (79, [some (.inr (.inl 2)), some (.inl u), some (.inl b), some (.inl (bI (sqS 9 b))), some (.inl a), some (.inl (fpS 9 (fpS 9 a a) a))], [.inl (if T (9 * a + b) = (fpS 9 a b) then 0 else 1), .inl u], mW (9, (m_up T (9 * a + b) (fpS 9 a b)), h, t, x) M, 0, 0) _
      refine m_run 4 (ps' := (21, [some (.inr (.inl 2)), some (.inl (u + (if T (9 * a + b) = (fpS 9 a b) then 0 else 1))), some (.inl b), some (.inl (bI (sqS 9 b))), some (.inl (a + 1)), some (.inl (fpS 9 (fpS 9 a a) a))], [], mW (9, (m_up T (9 * a + b) (fpS 9 a b)), h, t, x) M, 0, 0)) rfl ?_
      refine m_weak [some (.inr (.inl 2)), some (.inl (u + (if T (9 * a + b) = (fpS 9 a b) then 0 else 1))), some (.inl b), some (.inl (bI (sqS 9 b))), some (.inl (a + 1)), none] ⟨rfl, ⟨rfl, ⟨rfl, ⟨rfl, ⟨rfl, trivial⟩⟩⟩⟩⟩ ?_
      have htw : twS a b = fpS 9 (bif sqS 9 b then a else cubeS a) b := rfl
      rw [zc2] at htw
      simp only [cond_true, cond_false, cubeS] at htw
      refine ih _ _ (okT_up hT (by omega) (by omega)) (fillT_s hf hi1 hi2 hb hb2 htw.symm) ?_
      rw [← hu, hpe, htw]
      omega
set_option maxHeartbeats 4000000 in
set_option maxRecDepth 100000 in
theorem l_btO {X : Nat × Nat × (Nat → Int32)} {h : HS} {t : TS} {x : XS} {M : MS} {tb : Int → Int → Int} {Q : Option mPV → mPW → Prop} {v : Int} (K : ∀ T : Int → Int, okT T → fillT twS tb T 9 0 → Q (some (.inl v)) (mW (9, T, h, t, x) M)) : ∀ b : Int, 0 ≤ b → b ≤ 9 → ∀ (T : Int → Int) (u : Int) (hT : okT T) (hf : fillT twS tb T b 0) (hu : u + sumF (twR tb) (9 - b).toNat b = v), m_Sem X 45 (4, [some (.inr (.inl 2)), some (.inl u), some (.inl b), none, none, none], [], mW (9, T, h, t, x) M, 0, 0) (Q) := by
  have hn : okN 9 := by unfold okN; omega
  refine m_down 0 9 ?_ ?_
  · intro T u hT hf hu
    rw [sum_end] at hu
    have hu : u = v := by omega
    subst hu
    show m_Sem X 45 (4, [some (.inr (.inl 2)), some (.inl u), some (.inl 9), none, none, none], [], mW (9, T, h, t, x) M, 0, 0) _
    refine m_run 3 (ps' := (9, [some (.inr (.inl 2)), some (.inl u), some (.inl 9), none, none, none], [.inl 9, .inl 9], mW (9, T, h, t, x) M, 0, 0)) rfl ?_
    refine m_icmp rfl ⟨by omega, by omega⟩ ⟨by omega, by omega⟩ (fun (zc1 : 9 ≤ 9) => ?_) (fun (zc1 : ¬ 9 ≤ 9) => absurd zc1 (not_not_intro (by omega)))
    refine m_run 1 (ps' := (94, [some (.inr (.inl 2)), some (.inl u), some (.inl 9), none, none, none], [.inl u], mW (9, T, h, t, x) M, 0, 0)) rfl ?_
    exact m_ret1 rfl (Or.inl rfl) rfl (K T hT hf)
  · intro b hi1 hi2 ih T u hT hf hu
    rw [sum_step hi2] at hu
    refine m_run 3 (ps' := (9, [some (.inr (.inl 2)), some (.inl u), some (.inl b), none, none, none], [.inl 9, .inl b], mW (9, T, h, t, x) M, 0, 0)) rfl ?_
    refine m_icmp rfl ⟨by omega, by omega⟩ ⟨by omega, by omega⟩ (fun (zc1 : 9 ≤ b) => absurd zc1 (by omega)) (fun (zc1 : ¬ 9 ≤ b) => ?_)
    refine m_run 2 (ps' := (14, [some (.inr (.inl 2)), some (.inl u), some (.inl b), none, none, none], [.inl b, .inr (.inl 2)], mW (9, T, h, t, x) M, 0, 0)) rfl ?_
    refine m_callVF [.inl b] [] rfl rfl ⟨_, rfl, rfl⟩ rfl rfl (k_sq (b := b) hn ⟨by omega, by omega⟩) ?_
    show m_Sem X 45 (17, [some (.inr (.inl 2)), some (.inl u), some (.inl b), none, none, none], [.inl (bI (sqS 9 b))], mW (9, T, h, t, x) M, 0, 0) _
    refine m_run 3 (ps' := (21, [some (.inr (.inl 2)), some (.inl u), some (.inl b), some (.inl (bI (sqS 9 b))), some (.inl 0), none], [], mW (9, T, h, t, x) M, 0, 0)) rfl ?_
    refine m_weak [some (.inr (.inl 2)), some (.inl u), some (.inl b), some (.inl (bI (sqS 9 b))), some (.inl 0), none] ⟨rfl, ⟨rfl, ⟨rfl, ⟨rfl, ⟨rfl, trivial⟩⟩⟩⟩⟩ ?_
    exact l_btI (v := u + twR tb b) hi1 hi2 (fun T2 hT2 hf2 => ih T2 _ hT2 hf2 (by rw [← hu]; omega)) 0 (by omega) (by omega) T u hT hf rfl
set_option maxHeartbeats 4000000 in
set_option maxRecDepth 100000 in
theorem k_bt {X : Nat × Nat × (Nat → Int32)} {h : HS} {t : TS} {x : XS} {M : MS} {tb : Int → Int → Int} {T : Int → Int} (hR : repC 9 T tb) (hT : okT T) : m_Run X 45 [.inr (.inl 2)] (mW (9, T, h, t, x) M) (fun r w => r = some (.inl (twC tb)) ∧ ∃ T2, w = mW (9, T2, h, t, x) M ∧ okT T2 ∧ ∀ a b, 0 ≤ a → a < 9 → 0 ≤ b → b < 9 → T2 (9 * a + b) = twS a b) := by
  show m_Sem X 45 (0, [some (.inr (.inl 2)), none, none, none, none, none], [], mW (9, T, h, t, x) M, 0, 0) _
  refine m_run 4 (ps' := (4, [some (.inr (.inl 2)), some (.inl 0), some (.inl 0), none, none, none], [], mW (9, T, h, t, x) M, 0, 0)) rfl ?_
  refine m_weak [some (.inr (.inl 2)), some (.inl 0), some (.inl 0), none, none, none] ⟨rfl, ⟨rfl, ⟨rfl, trivial⟩⟩⟩ ?_
  have g0 : fillT twS tb T 0 0 := fun a b h1 h2 h3 h4 => by
    rw [if_neg (by omega)]; exact (hR.2 a b h1 h2 h3 h4).1
  exact l_btO (v := twC tb) (fun T2 hT2 hf => ⟨rfl, T2, rfl, hT2, fun a b h1 h2 h3 h4 => by rw [hf a b h1 h2 h3 h4, if_pos (by omega)]⟩) 0 (by omega) (by omega) T 0 hT g0 (by rw [Int.zero_add]; rfl)
def exR (tb : Int → Int → Int) (a : Int) : Int := sumF (fun b => if tb a b = tb b a then 0 else 2) a.toNat 0
def exC (n : Int) (tb : Int → Int → Int) : Int := sumF (exR tb) n.toNat 0
/-- rows below a are exchanged, of row a those below b -/
def fillX (n : Int) (tb : Int → Int → Int) (T : Int → Int) (a b : Int) : Prop := ∀ a' b', 0 ≤ a' → a' < n → 0 ≤ b' → b' < n → T (9 * a' + b') = if (a' < a ∧ b' < a) ∨ (a' = a ∧ b' < b) ∨ (b' = a ∧ a' < b) then tb b' a' else tb a' b'
theorem fillX_s {n : Int} {tb : Int → Int → Int} {T : Int → Int} {a b : Int} (h : fillX n tb T a b) (hn : n ≤ 9) (h1 : 0 ≤ b) (h2 : b < a) (h3 : a < n) : fillX n tb (m_up (m_up T (9 * a + b) (tb b a)) (9 * b + a) (tb a b)) a (b + 1) := by
  intro a' b' g1 g2 g3 g4
  by_cases he : 9 * a' + b' = 9 * b + a
  · have e1 : a' = b := by omega
    have e2 : b' = a := by omega
    rw [he, m_up_s, e1, e2, if_pos (by omega)]
  · rw [m_up_n _ _ he]
    by_cases he2 : 9 * a' + b' = 9 * a + b
    · have e1 : a' = a := by omega
      have e2 : b' = b := by omega
      rw [he2, m_up_s, e1, e2, if_pos (by omega)]
    · rw [m_up_n _ _ he2, h a' b' g1 g2 g3 g4]
      by_cases hc : (a' < a ∧ b' < a) ∨ (a' = a ∧ b' < b) ∨ (b' = a ∧ a' < b)
      · rw [if_pos hc, if_pos (by omega)]
      · rw [if_neg hc, if_neg (by omega)]
theorem fillX_r {n : Int} {tb : Int → Int → Int} {T : Int → Int} {a : Int} (h : fillX n tb T a a) : fillX n tb T (a + 1) 0 := by
  intro a' b' g1 g2 g3 g4
  rw [h a' b' g1 g2 g3 g4]
  by_cases hd : a' = a ∧ b' = a
  · rw [hd.1, hd.2]; simp
  · by_cases hc : (a' < a ∧ b' < a) ∨ (a' = a ∧ b' < a) ∨ (b' = a ∧ a' < a)
    · rw [if_pos hc, if_pos (by omega)]
    · rw [if_neg hc, if_neg (by omega)]
theorem m_up_same {T : Int → Int} {j k v : Int} (h : ¬ k = j) : m_up T j v k = T k := m_up_n T v h
set_option maxHeartbeats 4000000 in
set_option maxRecDepth 100000 in
theorem k_raw {X : Nat × Nat × (Nat → Int32)} {n : Int} {T : Int → Int} {h : HS} {t : TS} {x : XS} {M : MS} {a b : Int} (h1 : 0 ≤ 9 * a + b) (h2 : 9 * a + b < 81) (h3 : m_R a := by exact ⟨by omega, by omega⟩) : m_Run X 40 [.inr (.inl 2), .inl a, .inl b] (mW (n, T, h, t, x) M) (m_V (T (9 * a + b)) (mW (n, T, h, t, x) M)) := by
  show m_Sem X 40 (0, [some (.inr (.inl 2)), some (.inl a), some (.inl b), none], [], mW (n, T, h, t, x) M, 0, 0) _
  refine m_run 7 (ps' := (8, [some (.inr (.inl 2)), some (.inl a), some (.inl b), some (.inl ((9 * a) + b))], [.inl ((9 * a) + b)], mW (n, T, h, t, x) M, 0, 0)) rfl ?_
  refine m_if rfl ⟨by omega, by omega⟩ (fun (zc1 : ((9 * a) + b) < 0) => absurd zc1 (by omega)) (fun (zc1 : ¬ ((9 * a) + b) < 0) => ?_)
  refine m_run 4 (ps' := (17, [some (.inr (.inl 2)), some (.inl a), some (.inl b), some (.inl ((9 * a) + b))], [.inl 81, .inl ((9 * a) + b)], mW (n, T, h, t, x) M, 0, 0)) rfl ?_
  refine m_icmp rfl ⟨by omega, by omega⟩ ⟨by omega, by omega⟩ (fun (zc2 : 81 ≤ ((9 * a) + b)) => absurd zc2 (by omega)) (fun (zc2 : ¬ 81 ≤ ((9 * a) + b)) => ?_)
  refine m_run 3 (ps' := (25, [some (.inr (.inl 2)), some (.inl a), some (.inl b), some (.inl ((9 * a) + b))], [.inl ((9 * a) + b), .inr (.inl 3)], mW (n, T, h, t, x) M, 0, 0)) rfl ?_
  refine m_iald rfl rfl (by omega) (by omega) (by decide) ?_
  refine m_run 1 (ps' := (30, [some (.inr (.inl 2)), some (.inl a), some (.inl b), some (.inl ((9 * a) + b))], [.inl (T ((9 * a) + b))], mW (n, T, h, t, x) M, 0, 0)) rfl ?_
  exact m_ret1 rfl (Or.inl rfl) rfl (m_Vi rfl)
set_option maxHeartbeats 4000000 in
set_option maxRecDepth 100000 in
theorem l_csI {X : Nat × Nat × (Nat → Int32)} {n : Int} {h : HS} {t : TS} {x : XS} {M : MS} {tb : Int → Int → Int} {a : Int} {Q : Option mPV → mPW → Prop} {v : Int} (hn : okN n) (htb : ∀ a b, 0 ≤ a → a < n → 0 ≤ b → b < n → 0 ≤ tb a b ∧ tb a b < n) (ha : 0 ≤ a) (ha2 : a < n) (K : ∀ T : Int → Int, okT T → fillX n tb T (a + 1) 0 → m_Sem X 46 (4, [some (.inr (.inl 2)), some (.inl v), some (.inl (a + 1)), none, none], [], mW (n, T, h, t, x) M, 0, 0) Q) : ∀ b : Int, 0 ≤ b → b ≤ a → ∀ (T : Int → Int) (u : Int) (hT : okT T) (hf : fillX n tb T a b) (hu : u + sumF (fun b => if tb a b = tb b a then 0 else 2) (a - b).toNat b = v), m_Sem X 46 (14, [some (.inr (.inl 2)), some (.inl u), some (.inl a), some (.inl b), none], [], mW (n, T, h, t, x) M, 0, 0) (Q) := by
  have hl := okN_lo hn
  refine m_down 0 a ?_ ?_
  · intro T u hT hf hu
    rw [sum_end] at hu
    have hu : u = v := by omega
    subst hu
    show m_Sem X 46 (14, [some (.inr (.inl 2)), some (.inl u), some (.inl a), some (.inl a), none], [], mW (n, T, h, t, x) M, 0, 0) _
    refine m_run 2 (ps' := (16, [some (.inr (.inl 2)), some (.inl u), some (.inl a), some (.inl a), none], [.inl a, .inl a], mW (n, T, h, t, x) M, 0, 0)) rfl ?_
    refine m_icmp rfl ⟨by omega, by omega⟩ ⟨by omega, by omega⟩ (fun (zc1 : a ≤ a) => ?_) (fun (zc1 : ¬ a ≤ a) => absurd zc1 (not_not_intro (by omega)))
    refine m_run 2 (ps' := (4, [some (.inr (.inl 2)), some (.inl u), some (.inl (a + 1)), some (.inl a), none], [], mW (n, T, h, t, x) M, 0, 0)) rfl ?_
    refine m_weak [some (.inr (.inl 2)), some (.inl u), some (.inl (a + 1)), none, none] ⟨rfl, ⟨rfl, ⟨rfl, trivial⟩⟩⟩ ?_
    exact K T hT (fillX_r hf)
  · intro b hi1 hi2 ih T u hT hf hu
    rw [sum_step hi2] at hu
    have hp := hT (9 * a + b) (by omega) (by omega)
    have hq := hT (9 * b + a) (by omega) (by omega)
    have e1 : T (9 * a + b) = tb a b := by rw [hf a b ha ha2 hi1 (by omega), if_neg (by omega)]
    have e2 : T (9 * b + a) = tb b a := by rw [hf b a hi1 (by omega) ha ha2, if_neg (by omega)]
    have e3 : m_up T (9 * a + b) (T (9 * b + a)) (9 * b + a) = T (9 * b + a) := m_up_n T _ (by omega)
    refine m_run 2 (ps' := (16, [some (.inr (.inl 2)), some (.inl u), some (.inl a), some (.inl b), none], [.inl a, .inl b], mW (n, T, h, t, x) M, 0, 0)) rfl ?_
    refine m_icmp rfl ⟨by omega, by omega⟩ ⟨by omega, by omega⟩ (fun (zc1 : a ≤ b) => absurd zc1 (by omega)) (fun (zc1 : ¬ a ≤ b) => ?_)
    refine m_run 3 (ps' := (22, [some (.inr (.inl 2)), some (.inl u), some (.inl a), some (.inl b), none], [.inl b, .inl a, .inr (.inl 2)], mW (n, T, h, t, x) M, 0, 0)) rfl ?_
    refine m_callVF [.inl a, .inl b] [] rfl rfl ⟨_, rfl, rfl⟩ rfl rfl (k_raw (T := T) (a := a) (b := b) (by omega) (by omega)) ?_
    show m_Sem X 46 (25, [some (.inr (.inl 2)), some (.inl u), some (.inl a), some (.inl b), none], [.inl (T (9 * a + b))], mW (n, T, h, t, x) M, 0, 0) _
    refine m_run 8 (ps' := (34, [some (.inr (.inl 2)), some (.inl u), some (.inl a), some (.inl b), some (.inl (T (9 * a + b)))], [.inl a, .inl b, .inr (.inl 2), .inl b, .inl a, .inr (.inl 2), .inl u], mW (n, T, h, t, x) M, 0, 0)) rfl ?_
    refine m_callVF [.inl b, .inl a] [.inl b, .inl a, .inr (.inl 2), .inl u] rfl rfl ⟨_, rfl, rfl⟩ rfl rfl (k_raw (T := T) (a := b) (b := a) (by omega) (by omega)) ?_
    show m_Sem X 46 (37, [some (.inr (.inl 2)), some (.inl u), some (.inl a), some (.inl b), some (.inl (T (9 * a + b)))], [.inl (T (9 * b + a)), .inl b, .inl a, .inr (.inl 2), .inl u], mW (n, T, h, t, x) M, 0, 0) _
    refine m_callVF [.inl a, .inl b, .inl (T (9 * b + a))] [.inl u] rfl rfl ⟨_, rfl, rfl⟩ rfl rfl (k_set (T := T) (a := a) (b := b) (r := (T (9 * b + a))) ⟨by omega, by omega⟩ ⟨by omega, by omega⟩ (by omega) (by omega) ⟨by omega, by omega⟩ ⟨by omega, by omega⟩) ?_
    show m_Sem X 46 (40, [some (.inr (.inl 2)), some (.inl u), some (.inl a), some (.inl b), some (.inl (T (9 * a + b)))], [.inl (if T (9 * a + b) = (T (9 * b + a)) then 0 else 1), .inl u], mW (n, (m_up T (9 * a + b) (T (9 * b + a))), h, t, x) M, 0, 0) _
    refine m_run 7 (ps' := (48, [some (.inr (.inl 2)), some (.inl (u + (if T (9 * a + b) = (T (9 * b + a)) then 0 else 1))), some (.inl a), some (.inl b), some (.inl (T (9 * a + b)))], [.inl (T (9 * a + b)), .inl a, .inl b, .inr (.inl 2), .inl (u + (if T (9 * a + b) = (T (9 * b + a)) then 0 else 1))], mW (n, (m_up T (9 * a + b) (T (9 * b + a))), h, t, x) M, 0, 0)) rfl ?_
    refine m_callVF [.inl b, .inl a, .inl (T (9 * a + b))] [.inl (u + (if T (9 * a + b) = (T (9 * b + a)) then 0 else 1))] rfl rfl ⟨_, rfl, rfl⟩ rfl rfl (k_set (T := (m_up T (9 * a + b) (T (9 * b + a)))) (a := b) (b := a) (r := (T (9 * a + b))) ⟨by omega, by omega⟩ ⟨by omega, by omega⟩ (by omega) (by omega) ⟨by omega, by omega⟩ ⟨by omega, by omega⟩) ?_
    show m_Sem X 46 (51, [some (.inr (.inl 2)), some (.inl (u + (if T (9 * a + b) = (T (9 * b + a)) then 0 else 1))), some (.inl a), some (.inl b), some (.inl (T (9 * a + b)))], [.inl (if (m_up T (9 * a + b) (T (9 * b + a))) (9 * b + a) = (T (9 * a + b)) then 0 else 1), .inl (u + (if T (9 * a + b) = (T (9 * b + a)) then 0 else 1))], mW (n, (m_up (m_up T (9 * a + b) (T (9 * b + a))) (9 * b + a) (T (9 * a + b))), h, t, x) M, 0, 0) _
    refine m_run 4 (ps' := (14, [some (.inr (.inl 2)), some (.inl ((u + (if T (9 * a + b) = (T (9 * b + a)) then 0 else 1)) + (if (m_up T (9 * a + b) (T (9 * b + a))) (9 * b + a) = (T (9 * a + b)) then 0 else 1))), some (.inl a), some (.inl (b + 1)), some (.inl (T (9 * a + b)))], [], mW (n, (m_up (m_up T (9 * a + b) (T (9 * b + a))) (9 * b + a) (T (9 * a + b))), h, t, x) M, 0, 0)) rfl ?_
    refine m_weak [some (.inr (.inl 2)), some (.inl ((u + (if T (9 * a + b) = (T (9 * b + a)) then 0 else 1)) + (if (m_up T (9 * a + b) (T (9 * b + a))) (9 * b + a) = (T (9 * a + b)) then 0 else 1))), some (.inl a), some (.inl (b + 1)), none] ⟨rfl, ⟨rfl, ⟨rfl, ⟨rfl, trivial⟩⟩⟩⟩ ?_
    rw [e3, e1, e2]
    refine ih _ _ (okT_up (okT_up hT (by omega) (by omega)) (by omega) (by omega)) (fillX_s hf (by omega) hi1 hi2 ha2) ?_
    rw [← hu]
    by_cases hc : tb a b = tb b a
    · rw [if_pos hc, if_pos hc.symm]; omega
    · rw [if_neg hc, if_neg (fun h9 => hc h9.symm)]; omega
set_option maxHeartbeats 4000000 in
set_option maxRecDepth 100000 in
theorem l_csO {X : Nat × Nat × (Nat → Int32)} {n : Int} {h : HS} {t : TS} {x : XS} {M : MS} {tb : Int → Int → Int} {Q : Option mPV → mPW → Prop} {v : Int} (hn : okN n) (htb : ∀ a b, 0 ≤ a → a < n → 0 ≤ b → b < n → 0 ≤ tb a b ∧ tb a b < n) (K : ∀ T : Int → Int, okT T → fillX n tb T n 0 → Q (some (.inl v)) (mW (n, T, h, t, x) M)) : ∀ a : Int, 0 ≤ a → a ≤ n → ∀ (T : Int → Int) (u : Int) (hT : okT T) (hf : fillX n tb T a 0) (hu : u + sumF (exR tb) (n - a).toNat a = v), m_Sem X 46 (4, [some (.inr (.inl 2)), some (.inl u), some (.inl a), none, none], [], mW (n, T, h, t, x) M, 0, 0) (Q) := by
  have hl := okN_lo hn
  refine m_down 0 n ?_ ?_
  · intro T u hT hf hu
    rw [sum_end] at hu
    have hu : u = v := by omega
    subst hu
    show m_Sem X 46 (4, [some (.inr (.inl 2)), some (.inl u), some (.inl n), none, none], [], mW (n, T, h, t, x) M, 0, 0) _
    refine m_run 3 (ps' := (9, [some (.inr (.inl 2)), some (.inl u), some (.inl n), none, none], [.inl n, .inl n], mW (n, T, h, t, x) M, 0, 0)) rfl ?_
    refine m_icmp rfl ⟨by omega, by omega⟩ ⟨by omega, by omega⟩ (fun (zc1 : n ≤ n) => ?_) (fun (zc1 : ¬ n ≤ n) => absurd zc1 (not_not_intro (by omega)))
    refine m_run 1 (ps' := (66, [some (.inr (.inl 2)), some (.inl u), some (.inl n), none, none], [.inl u], mW (n, T, h, t, x) M, 0, 0)) rfl ?_
    exact m_ret1 rfl (Or.inl rfl) rfl (K T hT hf)
  · intro a hi1 hi2 ih T u hT hf hu
    rw [sum_step hi2] at hu
    refine m_run 3 (ps' := (9, [some (.inr (.inl 2)), some (.inl u), some (.inl a), none, none], [.inl n, .inl a], mW (n, T, h, t, x) M, 0, 0)) rfl ?_
    refine m_icmp rfl ⟨by omega, by omega⟩ ⟨by omega, by omega⟩ (fun (zc1 : n ≤ a) => absurd zc1 (by omega)) (fun (zc1 : ¬ n ≤ a) => ?_)
    refine m_run 2 (ps' := (14, [some (.inr (.inl 2)), some (.inl u), some (.inl a), some (.inl 0), none], [], mW (n, T, h, t, x) M, 0, 0)) rfl ?_
    refine m_weak [some (.inr (.inl 2)), some (.inl u), some (.inl a), some (.inl 0), none] ⟨rfl, ⟨rfl, ⟨rfl, ⟨rfl, trivial⟩⟩⟩⟩ ?_
    exact l_csI (v := u + exR tb a) hn htb hi1 hi2 (fun T2 hT2 hf2 => ih T2 _ hT2 hf2 (by rw [← hu]; omega)) 0 (by omega) (by omega) T u hT hf (by rw [Int.sub_zero]; rfl)
set_option maxHeartbeats 4000000 in
set_option maxRecDepth 100000 in
theorem k_cs {X : Nat × Nat × (Nat → Int32)} {n : Int} {h : HS} {t : TS} {x : XS} {M : MS} {tb : Int → Int → Int} {T : Int → Int} (hR : repC n T tb) (hT : okT T) : m_Run X 46 [.inr (.inl 2)] (mW (n, T, h, t, x) M) (fun r w => r = some (.inl (exC n tb)) ∧ ∃ T2, w = mW (n, T2, h, t, x) M ∧ okT T2 ∧ ∀ a b, 0 ≤ a → a < n → 0 ≤ b → b < n → T2 (9 * a + b) = tb b a) := by
  have hn := hR.1
  have hl := okN_lo hn
  show m_Sem X 46 (0, [some (.inr (.inl 2)), none, none, none, none], [], mW (n, T, h, t, x) M, 0, 0) _
  refine m_run 4 (ps' := (4, [some (.inr (.inl 2)), some (.inl 0), some (.inl 1), none, none], [], mW (n, T, h, t, x) M, 0, 0)) rfl ?_
  refine m_weak [some (.inr (.inl 2)), some (.inl 0), some (.inl 1), none, none] ⟨rfl, ⟨rfl, ⟨rfl, trivial⟩⟩⟩ ?_
  have h0 : exC n tb = 0 + sumF (exR tb) (n - 1).toNat 1 := by
    unfold exC
    rw [← Int.sub_zero n, sum_step (by omega), Int.sub_zero, Int.zero_add]
    show (0 : Int) + _ = _
    rw [Int.zero_add]
  have g0 : fillX n tb T 1 0 := fun a b h1 h2 h3 h4 => by
    rw [(hR.2 a b h1 h2 h3 h4).1]
    by_cases hd : a = 0 ∧ b = 0
    · rw [hd.1, hd.2]; simp
    · rw [if_neg (by omega)]
  exact l_csO (v := exC n tb) hn (fun a b h1 h2 h3 h4 => (hR.2 a b h1 h2 h3 h4).2) (fun T2 hT2 hf => ⟨rfl, T2, rfl, hT2, fun a b h1 h2 h3 h4 => by rw [hf a b h1 h2 h3 h4, if_pos (by omega)]⟩) 1 (by omega) (by omega) T 0 hT g0 h0.symm
end
section
/-! bits of an int that is a set of small numbers -/
theorem i32_nat {k : Nat} (h : k < 2147483648) : (Int32.ofInt (k : Int)).toBitVec.toNat = k := by
  rw [Int32.ofInt_eq_ofNat]
  show k % 2 ^ 32 = k
  omega
theorem i32_of {x : Int32} {k : Nat} (h : x.toBitVec.toNat = k) (hk : k < 2147483648) : x.toInt = (k : Int) := by
  rw [← Int32.toInt_toBitVec, BitVec.toInt_eq_toNat_of_lt (by rw [h]; omega), h]
theorem n_and_lt {a b : Nat} (ha : a < 2147483648) : a &&& b < 2147483648 := Nat.lt_of_le_of_lt Nat.and_le_left ha
theorem n_or_lt {a b : Nat} (ha : a < 2147483648) (hb : b < 2147483648) : a ||| b < 2147483648 := by
  have h : a ||| b < 2 ^ 31 := Nat.or_lt_two_pow (by omega) (by omega)
  omega
theorem m_and {a b : Nat} (ha : a < 2147483648) (hb : b < 2147483648) : (Int32.ofInt (a : Int) &&& Int32.ofInt (b : Int)).toInt = ((a &&& b : Nat) : Int) :=
  i32_of (by rw [Int32.toBitVec_and, BitVec.toNat_and, i32_nat ha, i32_nat hb]) (n_and_lt ha)
theorem m_or {a b : Nat} (ha : a < 2147483648) (hb : b < 2147483648) : (Int32.ofInt (a : Int) ||| Int32.ofInt (b : Int)).toInt = ((a ||| b : Nat) : Int) :=
  i32_of (by rw [Int32.toBitVec_or, BitVec.toNat_or, i32_nat ha, i32_nat hb]) (n_or_lt ha hb)
theorem m_shl1 {d : Int} (h1 : 0 ≤ d) (h2 : d < 31) : (Int32.ofInt 1 <<< (Int32.ofInt d &&& 31)).toInt = ((2 ^ d.toNat : Nat) : Int) := by
  have h : ∀ k, k < 31 → (Int32.ofInt 1 <<< (Int32.ofInt (k : Nat) &&& 31)).toInt = ((2 ^ k : Nat) : Int) := by decide +kernel
  have h3 := h d.toNat (by omega)
  rw [Int.toNat_of_nonneg h1] at h3
  exact h3
/-- the number of ones among the lowest nine bits -/
def popc (k : Nat) : Int := sumF (fun v => bI (k.testBit v.toNat)) 9 0
def bcE (i : Int) : Int := (Int32.ofInt (((Int32.ofInt (((Int32.ofInt (i - (Int32.ofInt (((Int32.ofInt i).toUInt32 >>> ((Int32.ofInt 1).toUInt32 &&& Int32.toUInt32 31)).toInt32.toInt) &&& Int32.ofInt 1431655765).toInt) &&& Int32.ofInt 858993459).toInt + (Int32.ofInt (((Int32.ofInt (i - (Int32.ofInt (((Int32.ofInt i).toUInt32 >>> ((Int32.ofInt 1).toUInt32 &&& Int32.toUInt32 31)).toInt32.toInt) &&& Int32.ofInt 1431655765).toInt)).toUInt32 >>> ((Int32.ofInt 2).toUInt32 &&& Int32.toUInt32 31)).toInt32.toInt) &&& Int32.ofInt 858993459).toInt) + ((Int32.ofInt ((Int32.ofInt (i - (Int32.ofInt (((Int32.ofInt i).toUInt32 >>> ((Int32.ofInt 1).toUInt32 &&& Int32.toUInt32 31)).toInt32.toInt) &&& Int32.ofInt 1431655765).toInt) &&& Int32.ofInt 858993459).toInt + (Int32.ofInt (((Int32.ofInt (i - (Int32.ofInt (((Int32.ofInt i).toUInt32 >>> ((Int32.ofInt 1).toUInt32 &&& Int32.toUInt32 31)).toInt32.toInt) &&& Int32.ofInt 1431655765).toInt)).toUInt32 >>> ((Int32.ofInt 2).toUInt32 &&& Int32.toUInt32 31)).toInt32.toInt) &&& Int32.ofInt 858993459).toInt)).toUInt32 >>> ((Int32.ofInt 4).toUInt32 &&& Int32.toUInt32 31)).toInt32.toInt) &&& Int32.ofInt 252645135).toInt + ((Int32.ofInt ((Int32.ofInt (((Int32.ofInt (i - (Int32.ofInt (((Int32.ofInt i).toUInt32 >>> ((Int32.ofInt 1).toUInt32 &&& Int32.toUInt32 31)).toInt32.toInt) &&& Int32.ofInt 1431655765).toInt) &&& Int32.ofInt 858993459).toInt + (Int32.ofInt (((Int32.ofInt (i - (Int32.ofInt (((Int32.ofInt i).toUInt32 >>> ((Int32.ofInt 1).toUInt32 &&& Int32.toUInt32 31)).toInt32.toInt) &&& Int32.ofInt 1431655765).toInt)).toUInt32 >>> ((Int32.ofInt 2).toUInt32 &&& Int32.toUInt32 31)).toInt32.toInt) &&& Int32.ofInt 858993459).toInt) + ((Int32.ofInt ((Int32.ofInt (i - (Int32.ofInt (((Int32.ofInt i).toUInt32 >>> ((Int32.ofInt 1).toUInt32 &&& Int32.toUInt32 31)).toInt32.toInt) &&& Int32.ofInt 1431655765).toInt) &&& Int32.ofInt 858993459).toInt + (Int32.ofInt (((Int32.ofInt (i - (Int32.ofInt (((Int32.ofInt i).toUInt32 >>> ((Int32.ofInt 1).toUInt32 &&& Int32.toUInt32 31)).toInt32.toInt) &&& Int32.ofInt 1431655765).toInt)).toUInt32 >>> ((Int32.ofInt 2).toUInt32 &&& Int32.toUInt32 31)).toInt32.toInt) &&& Int32.ofInt 858993459).toInt)).toUInt32 >>> ((Int32.ofInt 4).toUInt32 &&& Int32.toUInt32 31)).toInt32.toInt) &&& Int32.ofInt 252645135).toInt)).toUInt32 >>> ((Int32.ofInt 8).toUInt32 &&& Int32.toUInt32 31)).toInt32.toInt) + ((Int32.ofInt ((Int32.ofInt (((Int32.ofInt (i - (Int32.ofInt (((Int32.ofInt i).toUInt32 >>> ((Int32.ofInt 1).toUInt32 &&& Int32.toUInt32 31)).toInt32.toInt) &&& Int32.ofInt 1431655765).toInt) &&& Int32.ofInt 858993459).toInt + (Int32.ofInt (((Int32.ofInt (i - (Int32.ofInt (((Int32.ofInt i).toUInt32 >>> ((Int32.ofInt 1).toUInt32 &&& Int32.toUInt32 31)).toInt32.toInt) &&& Int32.ofInt 1431655765).toInt)).toUInt32 >>> ((Int32.ofInt 2).toUInt32 &&& Int32.toUInt32 31)).toInt32.toInt) &&& Int32.ofInt 858993459).toInt) + ((Int32.ofInt ((Int32.ofInt (i - (Int32.ofInt (((Int32.ofInt i).toUInt32 >>> ((Int32.ofInt 1).toUInt32 &&& Int32.toUInt32 31)).toInt32.toInt) &&& Int32.ofInt 1431655765).toInt) &&& Int32.ofInt 858993459).toInt + (Int32.ofInt (((Int32.ofInt (i - (Int32.ofInt (((Int32.ofInt i).toUInt32 >>> ((Int32.ofInt 1).toUInt32 &&& Int32.toUInt32 31)).toInt32.toInt) &&& Int32.ofInt 1431655765).toInt)).toUInt32 >>> ((Int32.ofInt 2).toUInt32 &&& Int32.toUInt32 31)).toInt32.toInt) &&& Int32.ofInt 858993459).toInt)).toUInt32 >>> ((Int32.ofInt 4).toUInt32 &&& Int32.toUInt32 31)).toInt32.toInt) &&& Int32.ofInt 252645135).toInt + ((Int32.ofInt ((Int32.ofInt (((Int32.ofInt (i - (Int32.ofInt (((Int32.ofInt i).toUInt32 >>> ((Int32.ofInt 1).toUInt32 &&& Int32.toUInt32 31)).toInt32.toInt) &&& Int32.ofInt 1431655765).toInt) &&& Int32.ofInt 858993459).toInt + (Int32.ofInt (((Int32.ofInt (i - (Int32.ofInt (((Int32.ofInt i).toUInt32 >>> ((Int32.ofInt 1).toUInt32 &&& Int32.toUInt32 31)).toInt32.toInt) &&& Int32.ofInt 1431655765).toInt)).toUInt32 >>> ((Int32.ofInt 2).toUInt32 &&& Int32.toUInt32 31)).toInt32.toInt) &&& Int32.ofInt 858993459).toInt) + ((Int32.ofInt ((Int32.ofInt (i - (Int32.ofInt (((Int32.ofInt i).toUInt32 >>> ((Int32.ofInt 1).toUInt32 &&& Int32.toUInt32 31)).toInt32.toInt) &&& Int32.ofInt 1431655765).toInt) &&& Int32.ofInt 858993459).toInt + (Int32.ofInt (((Int32.ofInt (i - (Int32.ofInt (((Int32.ofInt i).toUInt32 >>> ((Int32.ofInt 1).toUInt32 &&& Int32.toUInt32 31)).toInt32.toInt) &&& Int32.ofInt 1431655765).toInt)).toUInt32 >>> ((Int32.ofInt 2).toUInt32 &&& Int32.toUInt32 31)).toInt32.toInt) &&& Int32.ofInt 858993459).toInt)).toUInt32 >>> ((Int32.ofInt 4).toUInt32 &&& Int32.toUInt32 31)).toInt32.toInt) &&& Int32.ofInt 252645135).toInt)).toUInt32 >>> ((Int32.ofInt 8).toUInt32 &&& Int32.toUInt32 31)).toInt32.toInt)).toUInt32 >>> ((Int32.ofInt 16).toUInt32 &&& Int32.toUInt32 31)).toInt32.toInt) &&& Int32.ofInt 63).toInt
theorem bc_pop : ∀ k, k < 512 → bcE (k : Nat) = popc k := by decide +kernel
set_option maxHeartbeats 4000000 in
set_option maxRecDepth 100000 in
theorem k_bc {X : Nat × Nat × (Nat → Int32)} {n : Int} {T : Int → Int} {h : HS} {t : TS} {x : XS} {M : MS} {i : Int} : m_Run X 148 [.inl i] (mW (n, T, h, t, x) M) (m_V (bcE i) (mW (n, T, h, t, x) M)) := by
  show m_Sem X 148 (0, [some (.inl i)], [], mW (n, T, h, t, x) M, 0, 0) _
  refine m_run 41 (ps' := (52, [some (.inl (((Int32.ofInt (((Int32.ofInt (i - (Int32.ofInt (((Int32.ofInt i).toUInt32 >>> ((Int32.ofInt 1).toUInt32 &&& Int32.toUInt32 31)).toInt32.toInt) &&& Int32.ofInt 1431655765).toInt) &&& Int32.ofInt 858993459).toInt + (Int32.ofInt (((Int32.ofInt (i - (Int32.ofInt (((Int32.ofInt i).toUInt32 >>> ((Int32.ofInt 1).toUInt32 &&& Int32.toUInt32 31)).toInt32.toInt) &&& Int32.ofInt 1431655765).toInt)).toUInt32 >>> ((Int32.ofInt 2).toUInt32 &&& Int32.toUInt32 31)).toInt32.toInt) &&& Int32.ofInt 858993459).toInt) + ((Int32.ofInt ((Int32.ofInt (i - (Int32.ofInt (((Int32.ofInt i).toUInt32 >>> ((Int32.ofInt 1).toUInt32 &&& Int32.toUInt32 31)).toInt32.toInt) &&& Int32.ofInt 1431655765).toInt) &&& Int32.ofInt 858993459).toInt + (Int32.ofInt (((Int32.ofInt (i - (Int32.ofInt (((Int32.ofInt i).toUInt32 >>> ((Int32.ofInt 1).toUInt32 &&& Int32.toUInt32 31)).toInt32.toInt) &&& Int32.ofInt 1431655765).toInt)).toUInt32 >>> ((Int32.ofInt 2).toUInt32 &&& Int32.toUInt32 31)).toInt32.toInt) &&& Int32.ofInt 858993459).toInt)).toUInt32 >>> ((Int32.ofInt 4).toUInt32 &&& Int32.toUInt32 31)).toInt32.toInt) &&& Int32.ofInt 252645135).toInt + ((Int32.ofInt ((Int32.ofInt (((Int32.ofInt (i - (Int32.ofInt (((Int32.ofInt i).toUInt32 >>> ((Int32.ofInt 1).toUInt32 &&& Int32.toUInt32 31)).toInt32.toInt) &&& Int32.ofInt 1431655765).toInt) &&& Int32.ofInt 858993459).toInt + (Int32.ofInt (((Int32.ofInt (i - (Int32.ofInt (((Int32.ofInt i).toUInt32 >>> ((Int32.ofInt 1).toUInt32 &&& Int32.toUInt32 31)).toInt32.toInt) &&& Int32.ofInt 1431655765).toInt)).toUInt32 >>> ((Int32.ofInt 2).toUInt32 &&& Int32.toUInt32 31)).toInt32.toInt) &&& Int32.ofInt 858993459).toInt) + ((Int32.ofInt ((Int32.ofInt (i - (Int32.ofInt (((Int32.ofInt i).toUInt32 >>> ((Int32.ofInt 1).toUInt32 &&& Int32.toUInt32 31)).toInt32.toInt) &&& Int32.ofInt 1431655765).toInt) &&& Int32.ofInt 858993459).toInt + (Int32.ofInt (((Int32.ofInt (i - (Int32.ofInt (((Int32.ofInt i).toUInt32 >>> ((Int32.ofInt 1).toUInt32 &&& Int32.toUInt32 31)).toInt32.toInt) &&& Int32.ofInt 1431655765).toInt)).toUInt32 >>> ((Int32.ofInt 2).toUInt32 &&& Int32.toUInt32 31)).toInt32.toInt) &&& Int32.ofInt 858993459).toInt)).toUInt32 >>> ((Int32.ofInt 4).toUInt32 &&& Int32.toUInt32 31)).toInt32.toInt) &&& Int32.ofInt 252645135).toInt)).toUInt32 >>> ((Int32.ofInt 8).toUInt32 &&& Int32.toUInt32 31)).toInt32.toInt) + ((Int32.ofInt ((Int32.ofInt (((Int32.ofInt (i - (Int32.ofInt (((Int32.ofInt i).toUInt32 >>> ((Int32.ofInt 1).toUInt32 &&& Int32.toUInt32 31)).toInt32.toInt) &&& Int32.ofInt 1431655765).toInt) &&& Int32.ofInt 858993459).toInt + (Int32.ofInt (((Int32.ofInt (i - (Int32.ofInt (((Int32.ofInt i).toUInt32 >>> ((Int32.ofInt 1).toUInt32 &&& Int32.toUInt32 31)).toInt32.toInt) &&& Int32.ofInt 1431655765).toInt)).toUInt32 >>> ((Int32.ofInt 2).toUInt32 &&& Int32.toUInt32 31)).toInt32.toInt) &&& Int32.ofInt 858993459).toInt) + ((Int32.ofInt ((Int32.ofInt (i - (Int32.ofInt (((Int32.ofInt i).toUInt32 >>> ((Int32.ofInt 1).toUInt32 &&& Int32.toUInt32 31)).toInt32.toInt) &&& Int32.ofInt 1431655765).toInt) &&& Int32.ofInt 858993459).toInt + (Int32.ofInt (((Int32.ofInt (i - (Int32.ofInt (((Int32.ofInt i).toUInt32 >>> ((Int32.ofInt 1).toUInt32 &&& Int32.toUInt32 31)).toInt32.toInt) &&& Int32.ofInt 1431655765).toInt)).toUInt32 >>> ((Int32.ofInt 2).toUInt32 &&& Int32.toUInt32 31)).toInt32.toInt) &&& Int32.ofInt 858993459).toInt)).toUInt32 >>> ((Int32.ofInt 4).toUInt32 &&& Int32.toUInt32 31)).toInt32.toInt) &&& Int32.ofInt 252645135).toInt + ((Int32.ofInt ((Int32.ofInt (((Int32.ofInt (i - (Int32.ofInt (((Int32.ofInt i).toUInt32 >>> ((Int32.ofInt 1).toUInt32 &&& Int32.toUInt32 31)).toInt32.toInt) &&& Int32.ofInt 1431655765).toInt) &&& Int32.ofInt 858993459).toInt + (Int32.ofInt (((Int32.ofInt (i - (Int32.ofInt (((Int32.ofInt i).toUInt32 >>> ((Int32.ofInt 1).toUInt32 &&& Int32.toUInt32 31)).toInt32.toInt) &&& Int32.ofInt 1431655765).toInt)).toUInt32 >>> ((Int32.ofInt 2).toUInt32 &&& Int32.toUInt32 31)).toInt32.toInt) &&& Int32.ofInt 858993459).toInt) + ((Int32.ofInt ((Int32.ofInt (i - (Int32.ofInt (((Int32.ofInt i).toUInt32 >>> ((Int32.ofInt 1).toUInt32 &&& Int32.toUInt32 31)).toInt32.toInt) &&& Int32.ofInt 1431655765).toInt) &&& Int32.ofInt 858993459).toInt + (Int32.ofInt (((Int32.ofInt (i - (Int32.ofInt (((Int32.ofInt i).toUInt32 >>> ((Int32.ofInt 1).toUInt32 &&& Int32.toUInt32 31)).toInt32.toInt) &&& Int32.ofInt 1431655765).toInt)).toUInt32 >>> ((Int32.ofInt 2).toUInt32 &&& Int32.toUInt32 31)).toInt32.toInt) &&& Int32.ofInt 858993459).toInt)).toUInt32 >>> ((Int32.ofInt 4).toUInt32 &&& Int32.toUInt32 31)).toInt32.toInt) &&& Int32.ofInt 252645135).toInt)).toUInt32 >>> ((Int32.ofInt 8).toUInt32 &&& Int32.toUInt32 31)).toInt32.toInt)).toUInt32 >>> ((Int32.ofInt 16).toUInt32 &&& Int32.toUInt32 31)).toInt32.toInt))], [.inl ((Int32.ofInt (((Int32.ofInt (((Int32.ofInt (i - (Int32.ofInt (((Int32.ofInt i).toUInt32 >>> ((Int32.ofInt 1).toUInt32 &&& Int32.toUInt32 31)).toInt32.toInt) &&& Int32.ofInt 1431655765).toInt) &&& Int32.ofInt 858993459).toInt + (Int32.ofInt (((Int32.ofInt (i - (Int32.ofInt (((Int32.ofInt i).toUInt32 >>> ((Int32.ofInt 1).toUInt32 &&& Int32.toUInt32 31)).toInt32.toInt) &&& Int32.ofInt 1431655765).toInt)).toUInt32 >>> ((Int32.ofInt 2).toUInt32 &&& Int32.toUInt32 31)).toInt32.toInt) &&& Int32.ofInt 858993459).toInt) + ((Int32.ofInt ((Int32.ofInt (i - (Int32.ofInt (((Int32.ofInt i).toUInt32 >>> ((Int32.ofInt 1).toUInt32 &&& Int32.toUInt32 31)).toInt32.toInt) &&& Int32.ofInt 1431655765).toInt) &&& Int32.ofInt 858993459).toInt + (Int32.ofInt (((Int32.ofInt (i - (Int32.ofInt (((Int32.ofInt i).toUInt32 >>> ((Int32.ofInt 1).toUInt32 &&& Int32.toUInt32 31)).toInt32.toInt) &&& Int32.ofInt 1431655765).toInt)).toUInt32 >>> ((Int32.ofInt 2).toUInt32 &&& Int32.toUInt32 31)).toInt32.toInt) &&& Int32.ofInt 858993459).toInt)).toUInt32 >>> ((Int32.ofInt 4).toUInt32 &&& Int32.toUInt32 31)).toInt32.toInt) &&& Int32.ofInt 252645135).toInt + ((Int32.ofInt ((Int32.ofInt (((Int32.ofInt (i - (Int32.ofInt (((Int32.ofInt i).toUInt32 >>> ((Int32.ofInt 1).toUInt32 &&& Int32.toUInt32 31)).toInt32.toInt) &&& Int32.ofInt 1431655765).toInt) &&& Int32.ofInt 858993459).toInt + (Int32.ofInt (((Int32.ofInt (i - (Int32.ofInt (((Int32.ofInt i).toUInt32 >>> ((Int32.ofInt 1).toUInt32 &&& Int32.toUInt32 31)).toInt32.toInt) &&& Int32.ofInt 1431655765).toInt)).toUInt32 >>> ((Int32.ofInt 2).toUInt32 &&& Int32.toUInt32 31)).toInt32.toInt) &&& Int32.ofInt 858993459).toInt) + ((Int32.ofInt ((Int32.ofInt (i - (Int32.ofInt (((Int32.ofInt i).toUInt32 >>> ((Int32.ofInt 1).toUInt32 &&& Int32.toUInt32 31)).toInt32.toInt) &&& Int32.ofInt 1431655765).toInt) &&& Int32.ofInt 858993459).toInt + (Int32.ofInt (((Int32.ofInt (i - (Int32.ofInt (((Int32.ofInt i).toUInt32 >>> ((Int32.ofInt 1).toUInt32 &&& Int32.toUInt32 31)).toInt32.toInt) &&& Int32.ofInt 1431655765).toInt)).toUInt32 >>> ((Int32.ofInt 2).toUInt32 &&& Int32.toUInt32 31)).toInt32.toInt) &&& Int32.ofInt 858993459).toInt)).toUInt32 >>> ((Int32.ofInt 4).toUInt32 &&& Int32.toUInt32 31)).toInt32.toInt) &&& Int32.ofInt 252645135).toInt)).toUInt32 >>> ((Int32.ofInt 8).toUInt32 &&& Int32.toUInt32 31)).toInt32.toInt) + ((Int32.ofInt ((Int32.ofInt (((Int32.ofInt (i - (Int32.ofInt (((Int32.ofInt i).toUInt32 >>> ((Int32.ofInt 1).toUInt32 &&& Int32.toUInt32 31)).toInt32.toInt) &&& Int32.ofInt 1431655765).toInt) &&& Int32.ofInt 858993459).toInt + (Int32.ofInt (((Int32.ofInt (i - (Int32.ofInt (((Int32.ofInt i).toUInt32 >>> ((Int32.ofInt 1).toUInt32 &&& Int32.toUInt32 31)).toInt32.toInt) &&& Int32.ofInt 1431655765).toInt)).toUInt32 >>> ((Int32.ofInt 2).toUInt32 &&& Int32.toUInt32 31)).toInt32.toInt) &&& Int32.ofInt 858993459).toInt) + ((Int32.ofInt ((Int32.ofInt (i - (Int32.ofInt (((Int32.ofInt i).toUInt32 >>> ((Int32.ofInt 1).toUInt32 &&& Int32.toUInt32 31)).toInt32.toInt) &&& Int32.ofInt 1431655765).toInt) &&& Int32.ofInt 858993459).toInt + (Int32.ofInt (((Int32.ofInt (i - (Int32.ofInt (((Int32.ofInt i).toUInt32 >>> ((Int32.ofInt 1).toUInt32 &&& Int32.toUInt32 31)).toInt32.toInt) &&& Int32.ofInt 1431655765).toInt)).toUInt32 >>> ((Int32.ofInt 2).toUInt32 &&& Int32.toUInt32 31)).toInt32.toInt) &&& Int32.ofInt 858993459).toInt)).toUInt32 >>> ((Int32.ofInt 4).toUInt32 &&& Int32.toUInt32 31)).toInt32.toInt) &&& Int32.ofInt 252645135).toInt + ((Int32.ofInt ((Int32.ofInt (((Int32.ofInt (i - (Int32.ofInt (((Int32.ofInt i).toUInt32 >>> ((Int32.ofInt 1).toUInt32 &&& Int32.toUInt32 31)).toInt32.toInt) &&& Int32.ofInt 1431655765).toInt) &&& Int32.ofInt 858993459).toInt + (Int32.ofInt (((Int32.ofInt (i - (Int32.ofInt (((Int32.ofInt i).toUInt32 >>> ((Int32.ofInt 1).toUInt32 &&& Int32.toUInt32 31)).toInt32.toInt) &&& Int32.ofInt 1431655765).toInt)).toUInt32 >>> ((Int32.ofInt 2).toUInt32 &&& Int32.toUInt32 31)).toInt32.toInt) &&& Int32.ofInt 858993459).toInt) + ((Int32.ofInt ((Int32.ofInt (i - (Int32.ofInt (((Int32.ofInt i).toUInt32 >>> ((Int32.ofInt 1).toUInt32 &&& Int32.toUInt32 31)).toInt32.toInt) &&& Int32.ofInt 1431655765).toInt) &&& Int32.ofInt 858993459).toInt + (Int32.ofInt (((Int32.ofInt (i - (Int32.ofInt (((Int32.ofInt i).toUInt32 >>> ((Int32.ofInt 1).toUInt32 &&& Int32.toUInt32 31)).toInt32.toInt) &&& Int32.ofInt 1431655765).toInt)).toUInt32 >>> ((Int32.ofInt 2).toUInt32 &&& Int32.toUInt32 31)).toInt32.toInt) &&& Int32.ofInt 858993459).toInt)).toUInt32 >>> ((Int32.ofInt 4).toUInt32 &&& Int32.toUInt32 31)).toInt32.toInt) &&& Int32.ofInt 252645135).toInt)).toUInt32 >>> ((Int32.ofInt 8).toUInt32 &&& Int32.toUInt32 31)).toInt32.toInt)).toUInt32 >>> ((Int32.ofInt 16).toUInt32 &&& Int32.toUInt32 31)).toInt32.toInt) &&& Int32.ofInt 63).toInt)], mW (n, T, h, t, x) M, 0, 0)) rfl ?_
  exact m_ret1 rfl (Or.inl rfl) rfl (m_Vi rfl)
/-- numbers that come just once: s those seen, e those seen again -/
def onceK (f : Int → Int) : Nat → Int → Nat → Nat → Int
  | 0, _, s, e => popc (s &&& (e ^^^ 4294967295))
  | k + 1, i, s, e => onceK f k (i + 1) (s ||| 2 ^ (f i).toNat) (e ||| (s &&& 2 ^ (f i).toNat))
theorem once_end (f : Int → Int) (n : Int) (s e : Nat) : onceK f (n - n).toNat n s e = popc (s &&& (e ^^^ 4294967295)) := by rw [nat_end]; rfl
theorem once_step {f : Int → Int} {n i : Int} {s e : Nat} (h : i < n) : onceK f (n - i).toNat i s e = onceK f (n - (i + 1)).toNat (i + 1) (s ||| 2 ^ (f i).toNat) (e ||| (s &&& 2 ^ (f i).toNat)) := by rw [nat_step h]; rfl
def difF (n : Int) (tb : Int → Int → Int) (r : Bool) (a b : Int) : Int → Int := fun x => difS n (sideS tb r a x) (sideS tb r b x)
def onceS (n : Int) (tb : Int → Int → Int) (r : Bool) (a b : Int) : Int := onceK (difF n tb r a b) n.toNat 0 0 0
theorem pow9 {d : Int} (h1 : 0 ≤ d) (h2 : d < 9) : 2 ^ d.toNat < 512 := by
  have h : ∀ k, k < 9 → 2 ^ k < 512 := by decide
  exact h d.toNat (by omega)
theorem or9 {a b : Nat} (ha : a < 512) (hb : b < 512) : a ||| b < 512 := Nat.or_lt_two_pow (n := 9) ha hb
theorem and9 {a b : Nat} (ha : a < 512) : a &&& b < 512 := Nat.lt_of_le_of_lt Nat.and_le_left ha
theorem popc_in (k : Nat) : 0 ≤ popc k ∧ popc k ≤ 9 := by
  have h := sum_bound (f := fun v => bI (k.testBit v.toNat)) (B := 1) 9 0 (fun j _ _ => by cases k.testBit j.toNat <;> decide)
  exact ⟨h.1, by have h2 : popc k ≤ ((9 : Nat) : Int) * 1 := h.2; omega⟩
theorem onceK_in (f : Int → Int) : ∀ (k : Nat) (i : Int) (s e : Nat), 0 ≤ onceK f k i s e ∧ onceK f k i s e ≤ 9
  | 0, _, s, e => popc_in _
  | k + 1, i, s, e => onceK_in f k (i + 1) _ _
theorem onceS_in (n : Int) (tb : Int → Int → Int) (r : Bool) (a b : Int) : 0 ≤ onceS n tb r a b ∧ onceS n tb r a b ≤ 9 := onceK_in _ _ _ _ _
theorem and_not9 {s e : Nat} (hs : s < 512) (he : e < 512) : (Int32.ofInt (s : Int) &&& Int32.ofInt (Int32.ofInt (e : Int) ^^^ Int32.ofInt (-1)).toInt).toInt = ((s &&& (e ^^^ 4294967295) : Nat) : Int) := by
  rw [Int32.ofInt_toInt]
  refine i32_of ?_ (n_and_lt (by omega))
  rw [Int32.toBitVec_and, BitVec.toNat_and, Int32.toBitVec_xor, BitVec.toNat_xor, i32_nat (by omega), i32_nat (by omega)]
  rfl
set_option maxHeartbeats 4000000 in
set_option maxRecDepth 100000 in
theorem l_once {X : Nat × Nat × (Nat → Int32)} {n : Int} {T : Int → Int} {h : HS} {t : TS} {x : XS} {M : MS} {tb : Int → Int → Int} {a b : Int} {r : Bool} {v : Int} (hR : repC n T tb) (ha : 0 ≤ a) (ha2 : a < n) (hb : 0 ≤ b) (hb2 : b < n) : ∀ i : Int, 0 ≤ i → i ≤ n → ∀ (s : Nat) (e : Nat) (hs : s < 512) (he : e < 512) (hu : onceK (difF n tb r a b) (n - i).toNat i s e = v), m_Sem X 11 (9, [some (.inr (.inl 2)), some (.inl a), some (.inl b), some (.inl (bI r)), some (.inl (s : Int)), some (.inl (e : Int)), some (.inl i), none], [], mW (n, T, h, t, x) M, 0, 0) (m_V v (mW (n, T, h, t, x) M)) := by
  have hn := hR.1
  have hl := okN_lo hn
  refine m_down 0 n ?_ ?_
  · intro s e hs he hu
    show m_Sem X 11 (9, [some (.inr (.inl 2)), some (.inl a), some (.inl b), some (.inl (bI r)), some (.inl (s : Int)), some (.inl (e : Int)), some (.inl n), none], [], mW (n, T, h, t, x) M, 0, 0) _
    refine m_run 3 (ps' := (15, [some (.inr (.inl 2)), some (.inl a), some (.inl b), some (.inl (bI r)), some (.inl (s : Int)), some (.inl (e : Int)), some (.inl n), none], [.inl n, .inl n], mW (n, T, h, t, x) M, 0, 0)) rfl ?_
    refine m_icmp rfl ⟨by omega, by omega⟩ ⟨by omega, by omega⟩ (fun (zc1 : n ≤ n) => ?_) (fun (zc1 : ¬ n ≤ n) => absurd zc1 (not_not_intro (by omega)))
    refine m_run 5 (ps' := (72, [some (.inr (.inl 2)), some (.inl a), some (.inl b), some (.inl (bI r)), some (.inl (s : Int)), some (.inl (e : Int)), some (.inl n), none], [.inl ((Int32.ofInt (s : Int) &&& Int32.ofInt ((Int32.ofInt (e : Int) ^^^ Int32.ofInt (-1)).toInt)).toInt)], mW (n, T, h, t, x) M, 0, 0)) rfl ?_
    refine m_callSF [.inl ((Int32.ofInt (s : Int) &&& Int32.ofInt ((Int32.ofInt (e : Int) ^^^ Int32.ofInt (-1)).toInt)).toInt)] [] rfl rfl rfl (k_bc (i := (Int32.ofInt (s : Int) &&& Int32.ofInt ((Int32.ofInt (e : Int) ^^^ Int32.ofInt (-1)).toInt)).toInt)) ?_
    show m_Sem X 11 (75, [some (.inr (.inl 2)), some (.inl a), some (.inl b), some (.inl (bI r)), some (.inl (s : Int)), some (.inl (e : Int)), some (.inl n), none], [.inl (bcE ((Int32.ofInt (s : Int) &&& Int32.ofInt ((Int32.ofInt (e : Int) ^^^ Int32.ofInt (-1)).toInt)).toInt))], mW (n, T, h, t, x) M, 0, 0) _
    exact m_ret1 rfl (Or.inl rfl) rfl (m_Vi (by rw [← hu, once_end, and_not9 hs he]; exact bc_pop _ (and9 hs)))
  · intro i hi1 hi2 ih s e hs he hu
    rw [once_step hi2] at hu
    refine m_run 3 (ps' := (15, [some (.inr (.inl 2)), some (.inl a), some (.inl b), some (.inl (bI r)), some (.inl (s : Int)), some (.inl (e : Int)), some (.inl i), none], [.inl n, .inl i], mW (n, T, h, t, x) M, 0, 0)) rfl ?_
    refine m_icmp rfl ⟨by omega, by omega⟩ ⟨by omega, by omega⟩ (fun (zc1 : n ≤ i) => absurd zc1 (by omega)) (fun (zc1 : ¬ n ≤ i) => ?_)
    refine m_run 6 (ps' := (25, [some (.inr (.inl 2)), some (.inl a), some (.inl b), some (.inl (bI r)), some (.inl (s : Int)), some (.inl (e : Int)), some (.inl i), none], [.inl (bI r), .inl i, .inl a, .inr (.inl 2), .inr (.inl 2), .inl 1], mW (n, T, h, t, x) M, 0, 0)) rfl ?_
    refine m_callVF [.inl a, .inl i, .inl (bI r)] [.inr (.inl 2), .inl 1] rfl rfl ⟨_, rfl, rfl⟩ rfl rfl (k_side (a := a) (b := i) (r := r) hR (by omega) (by omega) (by omega) (by omega)) ?_
    have zt1 := sideS_in hR (r := r) (a := a) (x := i) (by omega) (by omega) (by omega) (by omega)
    show m_Sem X 11 (28, [some (.inr (.inl 2)), some (.inl a), some (.inl b), some (.inl (bI r)), some (.inl (s : Int)), some (.inl (e : Int)), some (.inl i), none], [.inl (sideS tb r a i), .inr (.inl 2), .inl 1], mW (n, T, h, t, x) M, 0, 0) _
    refine m_run 4 (ps' := (33, [some (.inr (.inl 2)), some (.inl a), some (.inl b), some (.inl (bI r)), some (.inl (s : Int)), some (.inl (e : Int)), some (.inl i), none], [.inl (bI r), .inl i, .inl b, .inr (.inl 2), .inl (sideS tb r a i), .inr (.inl 2), .inl 1], mW (n, T, h, t, x) M, 0, 0)) rfl ?_
    refine m_callVF [.inl b, .inl i, .inl (bI r)] [.inl (sideS tb r a i), .inr (.inl 2), .inl 1] rfl rfl ⟨_, rfl, rfl⟩ rfl rfl (k_side (a := b) (b := i) (r := r) hR (by omega) (by omega) (by omega) (by omega)) ?_
    have zt2 := sideS_in hR (r := r) (a := b) (x := i) (by omega) (by omega) (by omega) (by omega)
    show m_Sem X 11 (36, [some (.inr (.inl 2)), some (.inl a), some (.inl b), some (.inl (bI r)), some (.inl (s : Int)), some (.inl (e : Int)), some (.inl i), none], [.inl (sideS tb r b i), .inl (sideS tb r a i), .inr (.inl 2), .inl 1], mW (n, T, h, t, x) M, 0, 0) _
    refine m_callVF [.inl (sideS tb r a i), .inl (sideS tb r b i)] [.inl 1] rfl rfl ⟨_, rfl, rfl⟩ rfl rfl (k_dif (a := (sideS tb r a i)) (b := (sideS tb r b i)) hn (by omega) (by omega) (by omega) (by omega)) ?_
    have zt3 := difS_in (n := n) (a := (sideS tb r a i)) (b := (sideS tb r b i)) hn (by omega) (by omega) (by omega) (by omega)
    show m_Sem X 11 (39, [some (.inr (.inl 2)), some (.inl a), some (.inl b), some (.inl (bI r)), some (.inl (s : Int)), some (.inl (e : Int)), some (.inl i), none], [.inl (difS n (sideS tb r a i) (sideS tb r b i)), .inl 1], mW (n, T, h, t, x) M, 0, 0) _
    refine m_run 14 (ps' := (9, [some (.inr (.inl 2)), some (.inl a), some (.inl b), some (.inl (bI r)), some (.inl ((Int32.ofInt (s : Int) ||| Int32.ofInt ((Int32.ofInt 1 <<< (Int32.ofInt (difS n (sideS tb r a i) (sideS tb r b i)) &&& 31)).toInt)).toInt)), some (.inl ((Int32.ofInt (e : Int) ||| Int32.ofInt ((Int32.ofInt (s : Int) &&& Int32.ofInt ((Int32.ofInt 1 <<< (Int32.ofInt (difS n (sideS tb r a i) (sideS tb r b i)) &&& 31)).toInt)).toInt)).toInt)), some (.inl (i + 1)), some (.inl ((Int32.ofInt 1 <<< (Int32.ofInt (difS n (sideS tb r a i) (sideS tb r b i)) &&& 31)).toInt))], [], mW (n, T, h, t, x) M, 0, 0)) rfl ?_
    refine m_weak [some (.inr (.inl 2)), some (.inl a), some (.inl b), some (.inl (bI r)), some (.inl ((Int32.ofInt (s : Int) ||| Int32.ofInt ((Int32.ofInt 1 <<< (Int32.ofInt (difS n (sideS tb r a i) (sideS tb r b i)) &&& 31)).toInt)).toInt)), some (.inl ((Int32.ofInt (e : Int) ||| Int32.ofInt ((Int32.ofInt (s : Int) &&& Int32.ofInt ((Int32.ofInt 1 <<< (Int32.ofInt (difS n (sideS tb r a i) (sideS tb r b i)) &&& 31)).toInt)).toInt)).toInt)), some (.inl (i + 1)), none] ⟨rfl, ⟨rfl, ⟨rfl, ⟨rfl, ⟨rfl, ⟨rfl, ⟨rfl, trivial⟩⟩⟩⟩⟩⟩⟩ ?_
    have hd1 : 0 ≤ difS n (sideS tb r a i) (sideS tb r b i) ∧ difS n (sideS tb r a i) (sideS tb r b i) < 9 := by omega
    have hw := pow9 hd1.1 hd1.2
    rw [m_shl1 hd1.1 (by omega), m_and (by omega) (by omega), m_or (by omega) (by omega), m_or (by omega) (n_and_lt (by omega))]
    exact ih _ _ (or9 hs hw) (or9 he (and9 hs)) hu
set_option maxHeartbeats 4000000 in
set_option maxRecDepth 100000 in
theorem k_once {X : Nat × Nat × (Nat → Int32)} {n : Int} {T : Int → Int} {h : HS} {t : TS} {x : XS} {M : MS} {tb : Int → Int → Int} {a b : Int} {r : Bool} (hR : repC n T tb) (ha : 0 ≤ a) (ha2 : a < n) (hb : 0 ≤ b) (hb2 : b < n) : m_Run X 11 [.inr (.inl 2), .inl a, .inl b, .inl (bI r)] (mW (n, T, h, t, x) M) (m_V (onceS n tb r a b) (mW (n, T, h, t, x) M)) := by
  have hn := hR.1
  have hl := okN_lo hn
  show m_Sem X 11 (0, [some (.inr (.inl 2)), some (.inl a), some (.inl b), some (.inl (bI r)), none, none, none, none], [], mW (n, T, h, t, x) M, 0, 0) _
  refine m_run 6 (ps' := (9, [some (.inr (.inl 2)), some (.inl a), some (.inl b), some (.inl (bI r)), some (.inl 0), some (.inl 0), some (.inl 0), none], [], mW (n, T, h, t, x) M, 0, 0)) rfl ?_
  refine m_weak [some (.inr (.inl 2)), some (.inl a), some (.inl b), some (.inl (bI r)), some (.inl 0), some (.inl 0), some (.inl 0), none] ⟨rfl, ⟨rfl, ⟨rfl, ⟨rfl, ⟨rfl, ⟨rfl, ⟨rfl, trivial⟩⟩⟩⟩⟩⟩⟩ ?_
  exact l_once (v := onceS n tb r a b) hR ha ha2 hb hb2 0 (by omega) (by omega) 0 0 (by omega) (by omega) (by rw [z_sub]; rfl)
def holdsS (n : Int) (tb : Int → Int → Int) (law a b c : Int) : Bool :=
  if law = 0 then decide (tb 0 a = 0) && decide (tb a 0 = 0)
  else if law = 1 then decide (tb 1 a = a) && decide (tb a 1 = a)
  else if law = 2 then decide (tb a (sumS n b c) = sumS n (tb a b) (tb a c))
  else if law = 3 then decide (tb (sumS n a b) c = sumS n (tb a c) (tb b c))
  else if law = 4 then decide (tb (tb a b) c = tb a (tb b c))
  else if law = 5 then decide (tb a b = tb b a)
  else decide (a = b) || decide (onceS n tb (decide (law = 6)) a b = n)
theorem m_Vb {b : Bool} {a : Int} {w : mPW} (h : a = bI b) : m_V (bI b) w (some (.inl a)) w := ⟨by rw [h], rfl⟩
theorem b1 {b : Bool} (h : b = true) : 1 = bI b := by rw [h]; rfl
theorem b0 {b : Bool} (h : b = false) : 0 = bI b := by rw [h]; rfl
set_option maxHeartbeats 4000000 in
set_option maxRecDepth 100000 in
theorem k_holds {X : Nat × Nat × (Nat → Int32)} {n : Int} {T : Int → Int} {h : HS} {t : TS} {x : XS} {M : MS} {tb : Int → Int → Int} {law a b c : Int} (hR : repC n T tb) (hw : 0 ≤ law) (hw2 : law < 8) (ha : 0 ≤ a) (ha2 : a < n) (hb : 0 ≤ b) (hb2 : b < n) (hc : 0 ≤ c) (hc2 : c < n) : m_Run X 7 [.inr (.inl 2), .inl law, .inl a, .inl b, .inl c] (mW (n, T, h, t, x) M) (m_V (bI (holdsS n tb law a b c)) (mW (n, T, h, t, x) M)) := by
  have hn := hR.1
  have hl := okN_lo hn
  show m_Sem X 7 (0, [some (.inr (.inl 2)), some (.inl law), some (.inl a), some (.inl b), some (.inl c)], [], mW (n, T, h, t, x) M, 0, 0) _
  refine m_run 1 (ps' := (1, [some (.inr (.inl 2)), some (.inl law), some (.inl a), some (.inl b), some (.inl c)], [.inl law], mW (n, T, h, t, x) M, 0, 0)) rfl ?_
  rcases (show law = 0 ∨ law = 1 ∨ law = 2 ∨ law = 3 ∨ law = 4 ∨ law = 5 ∨ 5 < law by omega) with rfl | rfl | rfl | rfl | rfl | rfl | zs1
  · refine m_tabIn (tgt := 40) rfl ⟨by decide, by decide⟩ (by decide) (by decide) rfl rfl ?_
    refine m_run 3 (ps' := (43, [some (.inr (.inl 2)), some (.inl 0), some (.inl a), some (.inl b), some (.inl c)], [.inl a, .inl 0, .inr (.inl 2)], mW (n, T, h, t, x) M, 0, 0)) rfl ?_
    refine m_callVF [.inl 0, .inl a] [] rfl rfl ⟨_, rfl, rfl⟩ rfl rfl (k_times (a := 0) (b := a) hR (by omega) (by omega) (by omega) (by omega)) ?_
    have zt1 := (hR.2 0 a (by omega) (by omega) (by omega) (by omega)).2
    show m_Sem X 7 (46, [some (.inr (.inl 2)), some (.inl 0), some (.inl a), some (.inl b), some (.inl c)], [.inl (tb 0 a)], mW (n, T, h, t, x) M, 0, 0) _
    refine m_if rfl ⟨by omega, by omega⟩ (fun (zc1 : ¬ (tb 0 a) = 0) => ?_) (fun (zc1 : ¬ ¬ (tb 0 a) = 0) => ?_)
    · refine m_run 1 (ps' := (63, [some (.inr (.inl 2)), some (.inl 0), some (.inl a), some (.inl b), some (.inl c)], [.inl 0], mW (n, T, h, t, x) M, 0, 0)) rfl ?_
      exact m_ret1 rfl (Or.inr ⟨rfl, Or.inl rfl⟩) rfl (m_Vb (b0 (by unfold holdsS; simp [*])))
    · replace zc1 : (tb 0 a) = 0 := Decidable.not_not.mp zc1
      refine m_run 3 (ps' := (52, [some (.inr (.inl 2)), some (.inl 0), some (.inl a), some (.inl b), some (.inl c)], [.inl 0, .inl a, .inr (.inl 2)], mW (n, T, h, t, x) M, 0, 0)) rfl ?_
      refine m_callVF [.inl a, .inl 0] [] rfl rfl ⟨_, rfl, rfl⟩ rfl rfl (k_times (a := a) (b := 0) hR (by omega) (by omega) (by omega) (by omega)) ?_
      have zt2 := (hR.2 a 0 (by omega) (by omega) (by omega) (by omega)).2
      show m_Sem X 7 (55, [some (.inr (.inl 2)), some (.inl 0), some (.inl a), some (.inl b), some (.inl c)], [.inl (tb a 0)], mW (n, T, h, t, x) M, 0, 0) _
      refine m_if rfl ⟨by omega, by omega⟩ (fun (zc2 : ¬ (tb a 0) = 0) => ?_) (fun (zc2 : ¬ ¬ (tb a 0) = 0) => ?_)
      · refine m_run 1 (ps' := (63, [some (.inr (.inl 2)), some (.inl 0), some (.inl a), some (.inl b), some (.inl c)], [.inl 0], mW (n, T, h, t, x) M, 0, 0)) rfl ?_
        exact m_ret1 rfl (Or.inr ⟨rfl, Or.inl rfl⟩) rfl (m_Vb (b0 (by unfold holdsS; simp [*])))
      · replace zc2 : (tb a 0) = 0 := Decidable.not_not.mp zc2
        refine m_run 2 (ps' := (63, [some (.inr (.inl 2)), some (.inl 0), some (.inl a), some (.inl b), some (.inl c)], [.inl 1], mW (n, T, h, t, x) M, 0, 0)) rfl ?_
        exact m_ret1 rfl (Or.inr ⟨rfl, Or.inr rfl⟩) rfl (m_Vb (b1 (by unfold holdsS; simp [*])))
  · refine m_tabIn (tgt := 64) rfl ⟨by decide, by decide⟩ (by decide) (by decide) rfl rfl ?_
    refine m_run 3 (ps' := (67, [some (.inr (.inl 2)), some (.inl 1), some (.inl a), some (.inl b), some (.inl c)], [.inl a, .inl 1, .inr (.inl 2)], mW (n, T, h, t, x) M, 0, 0)) rfl ?_
    refine m_callVF [.inl 1, .inl a] [] rfl rfl ⟨_, rfl, rfl⟩ rfl rfl (k_times (a := 1) (b := a) hR (by omega) (by omega) (by omega) (by omega)) ?_
    have zt1 := (hR.2 1 a (by omega) (by omega) (by omega) (by omega)).2
    show m_Sem X 7 (70, [some (.inr (.inl 2)), some (.inl 1), some (.inl a), some (.inl b), some (.inl c)], [.inl (tb 1 a)], mW (n, T, h, t, x) M, 0, 0) _
    refine m_run 1 (ps' := (71, [some (.inr (.inl 2)), some (.inl 1), some (.inl a), some (.inl b), some (.inl c)], [.inl a, .inl (tb 1 a)], mW (n, T, h, t, x) M, 0, 0)) rfl ?_
    refine m_icmp rfl ⟨by omega, by omega⟩ ⟨by omega, by omega⟩ (fun (zc1 : ¬ (tb 1 a) = a) => ?_) (fun (zc1 : ¬ ¬ (tb 1 a) = a) => ?_)
    · refine m_run 1 (ps' := (89, [some (.inr (.inl 2)), some (.inl 1), some (.inl a), some (.inl b), some (.inl c)], [.inl 0], mW (n, T, h, t, x) M, 0, 0)) rfl ?_
      exact m_ret1 rfl (Or.inr ⟨rfl, Or.inl rfl⟩) rfl (m_Vb (b0 (by unfold holdsS; simp [*])))
    · replace zc1 : (tb 1 a) = a := Decidable.not_not.mp zc1
      refine m_run 3 (ps' := (77, [some (.inr (.inl 2)), some (.inl 1), some (.inl a), some (.inl b), some (.inl c)], [.inl 1, .inl a, .inr (.inl 2)], mW (n, T, h, t, x) M, 0, 0)) rfl ?_
      refine m_callVF [.inl a, .inl 1] [] rfl rfl ⟨_, rfl, rfl⟩ rfl rfl (k_times (a := a) (b := 1) hR (by omega) (by omega) (by omega) (by omega)) ?_
      have zt2 := (hR.2 a 1 (by omega) (by omega) (by omega) (by omega)).2
      show m_Sem X 7 (80, [some (.inr (.inl 2)), some (.inl 1), some (.inl a), some (.inl b), some (.inl c)], [.inl (tb a 1)], mW (n, T, h, t, x) M, 0, 0) _
      refine m_run 1 (ps' := (81, [some (.inr (.inl 2)), some (.inl 1), some (.inl a), some (.inl b), some (.inl c)], [.inl a, .inl (tb a 1)], mW (n, T, h, t, x) M, 0, 0)) rfl ?_
      refine m_icmp rfl ⟨by omega, by omega⟩ ⟨by omega, by omega⟩ (fun (zc2 : ¬ (tb a 1) = a) => ?_) (fun (zc2 : ¬ ¬ (tb a 1) = a) => ?_)
      · refine m_run 1 (ps' := (89, [some (.inr (.inl 2)), some (.inl 1), some (.inl a), some (.inl b), some (.inl c)], [.inl 0], mW (n, T, h, t, x) M, 0, 0)) rfl ?_
        exact m_ret1 rfl (Or.inr ⟨rfl, Or.inl rfl⟩) rfl (m_Vb (b0 (by unfold holdsS; simp [*])))
      · replace zc2 : (tb a 1) = a := Decidable.not_not.mp zc2
        refine m_run 2 (ps' := (89, [some (.inr (.inl 2)), some (.inl 1), some (.inl a), some (.inl b), some (.inl c)], [.inl 1], mW (n, T, h, t, x) M, 0, 0)) rfl ?_
        exact m_ret1 rfl (Or.inr ⟨rfl, Or.inr rfl⟩) rfl (m_Vb (b1 (by unfold holdsS; simp [*])))
  · refine m_tabIn (tgt := 90) rfl ⟨by decide, by decide⟩ (by decide) (by decide) rfl rfl ?_
    refine m_run 5 (ps' := (96, [some (.inr (.inl 2)), some (.inl 2), some (.inl a), some (.inl b), some (.inl c)], [.inl c, .inl b, .inr (.inl 2), .inl a, .inr (.inl 2)], mW (n, T, h, t, x) M, 0, 0)) rfl ?_
    refine m_callVF [.inl b, .inl c] [.inl a, .inr (.inl 2)] rfl rfl ⟨_, rfl, rfl⟩ rfl rfl (k_sum (a := b) (b := c) hn (by omega) (by omega) (by omega) (by omega)) ?_
    have zt1 := sumS_in (n := n) (a := b) (b := c) hn (by omega) (by omega) (by omega) (by omega)
    show m_Sem X 7 (99, [some (.inr (.inl 2)), some (.inl 2), some (.inl a), some (.inl b), some (.inl c)], [.inl (sumS n b c), .inl a, .inr (.inl 2)], mW (n, T, h, t, x) M, 0, 0) _
    refine m_callVF [.inl a, .inl (sumS n b c)] [] rfl rfl ⟨_, rfl, rfl⟩ rfl rfl (k_times (a := a) (b := (sumS n b c)) hR (by omega) (by omega) (by omega) (by omega)) ?_
    have zt2 := (hR.2 a (sumS n b c) (by omega) (by omega) (by omega) (by omega)).2
    show m_Sem X 7 (102, [some (.inr (.inl 2)), some (.inl 2), some (.inl a), some (.inl b), some (.inl c)], [.inl (tb a (sumS n b c))], mW (n, T, h, t, x) M, 0, 0) _
    refine m_run 4 (ps' := (106, [some (.inr (.inl 2)), some (.inl 2), some (.inl a), some (.inl b), some (.inl c)], [.inl b, .inl a, .inr (.inl 2), .inr (.inl 2), .inl (tb a (sumS n b c))], mW (n, T, h, t, x) M, 0, 0)) rfl ?_
    refine m_callVF [.inl a, .inl b] [.inr (.inl 2), .inl (tb a (sumS n b c))] rfl rfl ⟨_, rfl, rfl⟩ rfl rfl (k_times (a := a) (b := b) hR (by omega) (by omega) (by omega) (by omega)) ?_
    have zt3 := (hR.2 a b (by omega) (by omega) (by omega) (by omega)).2
    show m_Sem X 7 (109, [some (.inr (.inl 2)), some (.inl 2), some (.inl a), some (.inl b), some (.inl c)], [.inl (tb a b), .inr (.inl 2), .inl (tb a (sumS n b c))], mW (n, T, h, t, x) M, 0, 0) _
    refine m_run 3 (ps' := (113, [some (.inr (.inl 2)), some (.inl 2), some (.inl a), some (.inl b), some (.inl c)], [.inl c, .inl a, .inr (.inl 2), .inl (tb a b), .inr (.inl 2), .inl (tb a (sumS n b c))], mW (n, T, h, t, x) M, 0, 0)) rfl ?_
    refine m_callVF [.inl a, .inl c] [.inl (tb a b), .inr (.inl 2), .inl (tb a (sumS n b c))] rfl rfl ⟨_, rfl, rfl⟩ rfl rfl (k_times (a := a) (b := c) hR (by omega) (by omega) (by omega) (by omega)) ?_
    have zt4 := (hR.2 a c (by omega) (by omega) (by omega) (by omega)).2
    show m_Sem X 7 (116, [some (.inr (.inl 2)), some (.inl 2), some (.inl a), some (.inl b), some (.inl c)], [.inl (tb a c), .inl (tb a b), .inr (.inl 2), .inl (tb a (sumS n b c))], mW (n, T, h, t, x) M, 0, 0) _
    refine m_callVF [.inl (tb a b), .inl (tb a c)] [.inl (tb a (sumS n b c))] rfl rfl ⟨_, rfl, rfl⟩ rfl rfl (k_sum (a := (tb a b)) (b := (tb a c)) hn (by omega) (by omega) (by omega) (by omega)) ?_
    have zt5 := sumS_in (n := n) (a := (tb a b)) (b := (tb a c)) hn (by omega) (by omega) (by omega) (by omega)
    show m_Sem X 7 (119, [some (.inr (.inl 2)), some (.inl 2), some (.inl a), some (.inl b), some (.inl c)], [.inl (sumS n (tb a b) (tb a c)), .inl (tb a (sumS n b c))], mW (n, T, h, t, x) M, 0, 0) _
    refine m_icmp rfl ⟨by omega, by omega⟩ ⟨by omega, by omega⟩ (fun (zc1 : ¬ (tb a (sumS n b c)) = (sumS n (tb a b) (tb a c))) => ?_) (fun (zc1 : ¬ ¬ (tb a (sumS n b c)) = (sumS n (tb a b) (tb a c))) => ?_)
    · refine m_run 1 (ps' := (127, [some (.inr (.inl 2)), some (.inl 2), some (.inl a), some (.inl b), some (.inl c)], [.inl 0], mW (n, T, h, t, x) M, 0, 0)) rfl ?_
      exact m_ret1 rfl (Or.inr ⟨rfl, Or.inl rfl⟩) rfl (m_Vb (b0 (by unfold holdsS; simp [*])))
    · replace zc1 : (tb a (sumS n b c)) = (sumS n (tb a b) (tb a c)) := Decidable.not_not.mp zc1
      refine m_run 2 (ps' := (127, [some (.inr (.inl 2)), some (.inl 2), some (.inl a), some (.inl b), some (.inl c)], [.inl 1], mW (n, T, h, t, x) M, 0, 0)) rfl ?_
      exact m_ret1 rfl (Or.inr ⟨rfl, Or.inr rfl⟩) rfl (m_Vb (b1 (by unfold holdsS; simp [*])))
  · refine m_tabIn (tgt := 128) rfl ⟨by decide, by decide⟩ (by decide) (by decide) rfl rfl ?_
    refine m_run 4 (ps' := (132, [some (.inr (.inl 2)), some (.inl 3), some (.inl a), some (.inl b), some (.inl c)], [.inl b, .inl a, .inr (.inl 2), .inr (.inl 2)], mW (n, T, h, t, x) M, 0, 0)) rfl ?_
    refine m_callVF [.inl a, .inl b] [.inr (.inl 2)] rfl rfl ⟨_, rfl, rfl⟩ rfl rfl (k_sum (a := a) (b := b) hn (by omega) (by omega) (by omega) (by omega)) ?_
    have zt1 := sumS_in (n := n) (a := a) (b := b) hn (by omega) (by omega) (by omega) (by omega)
    show m_Sem X 7 (135, [some (.inr (.inl 2)), some (.inl 3), some (.inl a), some (.inl b), some (.inl c)], [.inl (sumS n a b), .inr (.inl 2)], mW (n, T, h, t, x) M, 0, 0) _
    refine m_run 1 (ps' := (137, [some (.inr (.inl 2)), some (.inl 3), some (.inl a), some (.inl b), some (.inl c)], [.inl c, .inl (sumS n a b), .inr (.inl 2)], mW (n, T, h, t, x) M, 0, 0)) rfl ?_
    refine m_callVF [.inl (sumS n a b), .inl c] [] rfl rfl ⟨_, rfl, rfl⟩ rfl rfl (k_times (a := (sumS n a b)) (b := c) hR (by omega) (by omega) (by omega) (by omega)) ?_
    have zt2 := (hR.2 (sumS n a b) c (by omega) (by omega) (by omega) (by omega)).2
    show m_Sem X 7 (140, [some (.inr (.inl 2)), some (.inl 3), some (.inl a), some (.inl b), some (.inl c)], [.inl (tb (sumS n a b) c)], mW (n, T, h, t, x) M, 0, 0) _
    refine m_run 4 (ps' := (145, [some (.inr (.inl 2)), some (.inl 3), some (.inl a), some (.inl b), some (.inl c)], [.inl c, .inl a, .inr (.inl 2), .inr (.inl 2), .inl (tb (sumS n a b) c)], mW (n, T, h, t, x) M, 0, 0)) rfl ?_
    refine m_callVF [.inl a, .inl c] [.inr (.inl 2), .inl (tb (sumS n a b) c)] rfl rfl ⟨_, rfl, rfl⟩ rfl rfl (k_times (a := a) (b := c) hR (by omega) (by omega) (by omega) (by omega)) ?_
    have zt3 := (hR.2 a c (by omega) (by omega) (by omega) (by omega)).2
    show m_Sem X 7 (148, [some (.inr (.inl 2)), some (.inl 3), some (.inl a), some (.inl b), some (.inl c)], [.inl (tb a c), .inr (.inl 2), .inl (tb (sumS n a b) c)], mW (n, T, h, t, x) M, 0, 0) _
    refine m_run 3 (ps' := (152, [some (.inr (.inl 2)), some (.inl 3), some (.inl a), some (.inl b), some (.inl c)], [.inl c, .inl b, .inr (.inl 2), .inl (tb a c), .inr (.inl 2), .inl (tb (sumS n a b) c)], mW (n, T, h, t, x) M, 0, 0)) rfl ?_
    refine m_callVF [.inl b, .inl c] [.inl (tb a c), .inr (.inl 2), .inl (tb (sumS n a b) c)] rfl rfl ⟨_, rfl, rfl⟩ rfl rfl (k_times (a := b) (b := c) hR (by omega) (by omega) (by omega) (by omega)) ?_
    have zt4 := (hR.2 b c (by omega) (by omega) (by omega) (by omega)).2
    show m_Sem X 7 (155, [some (.inr (.inl 2)), some (.inl 3), some (.inl a), some (.inl b), some (.inl c)], [.inl (tb b c), .inl (tb a c), .inr (.inl 2), .inl (tb (sumS n a b) c)], mW (n, T, h, t, x) M, 0, 0) _
    refine m_callVF [.inl (tb a c), .inl (tb b c)] [.inl (tb (sumS n a b) c)] rfl rfl ⟨_, rfl, rfl⟩ rfl rfl (k_sum (a := (tb a c)) (b := (tb b c)) hn (by omega) (by omega) (by omega) (by omega)) ?_
    have zt5 := sumS_in (n := n) (a := (tb a c)) (b := (tb b c)) hn (by omega) (by omega) (by omega) (by omega)
    show m_Sem X 7 (158, [some (.inr (.inl 2)), some (.inl 3), some (.inl a), some (.inl b), some (.inl c)], [.inl (sumS n (tb a c) (tb b c)), .inl (tb (sumS n a b) c)], mW (n, T, h, t, x) M, 0, 0) _
    refine m_icmp rfl ⟨by omega, by omega⟩ ⟨by omega, by omega⟩ (fun (zc1 : ¬ (tb (sumS n a b) c) = (sumS n (tb a c) (tb b c))) => ?_) (fun (zc1 : ¬ ¬ (tb (sumS n a b) c) = (sumS n (tb a c) (tb b c))) => ?_)
    · refine m_run 1 (ps' := (166, [some (.inr (.inl 2)), some (.inl 3), some (.inl a), some (.inl b), some (.inl c)], [.inl 0], mW (n, T, h, t, x) M, 0, 0)) rfl ?_
      exact m_ret1 rfl (Or.inr ⟨rfl, Or.inl rfl⟩) rfl (m_Vb (b0 (by unfold holdsS; simp [*])))
    · replace zc1 : (tb (sumS n a b) c) = (sumS n (tb a c) (tb b c)) := Decidable.not_not.mp zc1
      refine m_run 2 (ps' := (166, [some (.inr (.inl 2)), some (.inl 3), some (.inl a), some (.inl b), some (.inl c)], [.inl 1], mW (n, T, h, t, x) M, 0, 0)) rfl ?_
      exact m_ret1 rfl (Or.inr ⟨rfl, Or.inr rfl⟩) rfl (m_Vb (b1 (by unfold holdsS; simp [*])))
  · refine m_tabIn (tgt := 167) rfl ⟨by decide, by decide⟩ (by decide) (by decide) rfl rfl ?_
    refine m_run 4 (ps' := (171, [some (.inr (.inl 2)), some (.inl 4), some (.inl a), some (.inl b), some (.inl c)], [.inl b, .inl a, .inr (.inl 2), .inr (.inl 2)], mW (n, T, h, t, x) M, 0, 0)) rfl ?_
    refine m_callVF [.inl a, .inl b] [.inr (.inl 2)] rfl rfl ⟨_, rfl, rfl⟩ rfl rfl (k_times (a := a) (b := b) hR (by omega) (by omega) (by omega) (by omega)) ?_
    have zt1 := (hR.2 a b (by omega) (by omega) (by omega) (by omega)).2
    show m_Sem X 7 (174, [some (.inr (.inl 2)), some (.inl 4), some (.inl a), some (.inl b), some (.inl c)], [.inl (tb a b), .inr (.inl 2)], mW (n, T, h, t, x) M, 0, 0) _
    refine m_run 1 (ps' := (176, [some (.inr (.inl 2)), some (.inl 4), some (.inl a), some (.inl b), some (.inl c)], [.inl c, .inl (tb a b), .inr (.inl 2)], mW (n, T, h, t, x) M, 0, 0)) rfl ?_
    refine m_callVF [.inl (tb a b), .inl c] [] rfl rfl ⟨_, rfl, rfl⟩ rfl rfl (k_times (a := (tb a b)) (b := c) hR (by omega) (by omega) (by omega) (by omega)) ?_
    have zt2 := (hR.2 (tb a b) c (by omega) (by omega) (by omega) (by omega)).2
    show m_Sem X 7 (179, [some (.inr (.inl 2)), some (.inl 4), some (.inl a), some (.inl b), some (.inl c)], [.inl (tb (tb a b) c)], mW (n, T, h, t, x) M, 0, 0) _
    refine m_run 5 (ps' := (185, [some (.inr (.inl 2)), some (.inl 4), some (.inl a), some (.inl b), some (.inl c)], [.inl c, .inl b, .inr (.inl 2), .inl a, .inr (.inl 2), .inl (tb (tb a b) c)], mW (n, T, h, t, x) M, 0, 0)) rfl ?_
    refine m_callVF [.inl b, .inl c] [.inl a, .inr (.inl 2), .inl (tb (tb a b) c)] rfl rfl ⟨_, rfl, rfl⟩ rfl rfl (k_times (a := b) (b := c) hR (by omega) (by omega) (by omega) (by omega)) ?_
    have zt3 := (hR.2 b c (by omega) (by omega) (by omega) (by omega)).2
    show m_Sem X 7 (188, [some (.inr (.inl 2)), some (.inl 4), some (.inl a), some (.inl b), some (.inl c)], [.inl (tb b c), .inl a, .inr (.inl 2), .inl (tb (tb a b) c)], mW (n, T, h, t, x) M, 0, 0) _
    refine m_callVF [.inl a, .inl (tb b c)] [.inl (tb (tb a b) c)] rfl rfl ⟨_, rfl, rfl⟩ rfl rfl (k_times (a := a) (b := (tb b c)) hR (by omega) (by omega) (by omega) (by omega)) ?_
    have zt4 := (hR.2 a (tb b c) (by omega) (by omega) (by omega) (by omega)).2
    show m_Sem X 7 (191, [some (.inr (.inl 2)), some (.inl 4), some (.inl a), some (.inl b), some (.inl c)], [.inl (tb a (tb b c)), .inl (tb (tb a b) c)], mW (n, T, h, t, x) M, 0, 0) _
    refine m_icmp rfl ⟨by omega, by omega⟩ ⟨by omega, by omega⟩ (fun (zc1 : ¬ (tb (tb a b) c) = (tb a (tb b c))) => ?_) (fun (zc1 : ¬ ¬ (tb (tb a b) c) = (tb a (tb b c))) => ?_)
    · refine m_run 1 (ps' := (199, [some (.inr (.inl 2)), some (.inl 4), some (.inl a), some (.inl b), some (.inl c)], [.inl 0], mW (n, T, h, t, x) M, 0, 0)) rfl ?_
      exact m_ret1 rfl (Or.inr ⟨rfl, Or.inl rfl⟩) rfl (m_Vb (b0 (by unfold holdsS; simp [*])))
    · replace zc1 : (tb (tb a b) c) = (tb a (tb b c)) := Decidable.not_not.mp zc1
      refine m_run 2 (ps' := (199, [some (.inr (.inl 2)), some (.inl 4), some (.inl a), some (.inl b), some (.inl c)], [.inl 1], mW (n, T, h, t, x) M, 0, 0)) rfl ?_
      exact m_ret1 rfl (Or.inr ⟨rfl, Or.inr rfl⟩) rfl (m_Vb (b1 (by unfold holdsS; simp [*])))
  · refine m_tabIn (tgt := 200) rfl ⟨by decide, by decide⟩ (by decide) (by decide) rfl rfl ?_
    refine m_run 3 (ps' := (203, [some (.inr (.inl 2)), some (.inl 5), some (.inl a), some (.inl b), some (.inl c)], [.inl b, .inl a, .inr (.inl 2)], mW (n, T, h, t, x) M, 0, 0)) rfl ?_
    refine m_callVF [.inl a, .inl b] [] rfl rfl ⟨_, rfl, rfl⟩ rfl rfl (k_times (a := a) (b := b) hR (by omega) (by omega) (by omega) (by omega)) ?_
    have zt1 := (hR.2 a b (by omega) (by omega) (by omega) (by omega)).2
    show m_Sem X 7 (206, [some (.inr (.inl 2)), some (.inl 5), some (.inl a), some (.inl b), some (.inl c)], [.inl (tb a b)], mW (n, T, h, t, x) M, 0, 0) _
    refine m_run 3 (ps' := (209, [some (.inr (.inl 2)), some (.inl 5), some (.inl a), some (.inl b), some (.inl c)], [.inl a, .inl b, .inr (.inl 2), .inl (tb a b)], mW (n, T, h, t, x) M, 0, 0)) rfl ?_
    refine m_callVF [.inl b, .inl a] [.inl (tb a b)] rfl rfl ⟨_, rfl, rfl⟩ rfl rfl (k_times (a := b) (b := a) hR (by omega) (by omega) (by omega) (by omega)) ?_
    have zt2 := (hR.2 b a (by omega) (by omega) (by omega) (by omega)).2
    show m_Sem X 7 (212, [some (.inr (.inl 2)), some (.inl 5), some (.inl a), some (.inl b), some (.inl c)], [.inl (tb b a), .inl (tb a b)], mW (n, T, h, t, x) M, 0, 0) _
    refine m_icmp rfl ⟨by omega, by omega⟩ ⟨by omega, by omega⟩ (fun (zc1 : ¬ (tb a b) = (tb b a)) => ?_) (fun (zc1 : ¬ ¬ (tb a b) = (tb b a)) => ?_)
    · refine m_run 1 (ps' := (220, [some (.inr (.inl 2)), some (.inl 5), some (.inl a), some (.inl b), some (.inl c)], [.inl 0], mW (n, T, h, t, x) M, 0, 0)) rfl ?_
      exact m_ret1 rfl (Or.inr ⟨rfl, Or.inl rfl⟩) rfl (m_Vb (b0 (by unfold holdsS; simp [*])))
    · replace zc1 : (tb a b) = (tb b a) := Decidable.not_not.mp zc1
      refine m_run 2 (ps' := (220, [some (.inr (.inl 2)), some (.inl 5), some (.inl a), some (.inl b), some (.inl c)], [.inl 1], mW (n, T, h, t, x) M, 0, 0)) rfl ?_
      exact m_ret1 rfl (Or.inr ⟨rfl, Or.inr rfl⟩) rfl (m_Vb (b1 (by unfold holdsS; simp [*])))
  · refine m_tabOut (tgt := 221) rfl ⟨by omega, by omega⟩ (Or.inr (by omega)) rfl ?_
    refine m_run 2 (ps' := (223, [some (.inr (.inl 2)), some (.inl law), some (.inl a), some (.inl b), some (.inl c)], [.inl b, .inl a], mW (n, T, h, t, x) M, 0, 0)) rfl ?_
    refine m_icmp rfl ⟨by omega, by omega⟩ ⟨by omega, by omega⟩ (fun (zc1 : a = b) => ?_) (fun (zc1 : ¬ a = b) => ?_)
    · refine m_run 2 (ps' := (255, [some (.inr (.inl 2)), some (.inl law), some (.inl a), some (.inl b), some (.inl c)], [.inl 1], mW (n, T, h, t, x) M, 0, 0)) rfl ?_
      exact m_ret1 rfl (Or.inr ⟨rfl, Or.inr rfl⟩) rfl (m_Vb (b1 (by unfold holdsS; simp only [show ¬ law = 0 by omega, show ¬ law = 1 by omega, show ¬ law = 2 by omega, show ¬ law = 3 by omega, show ¬ law = 4 by omega, show ¬ law = 5 by omega, if_false]; simp [*])))
    · refine m_run 5 (ps' := (232, [some (.inr (.inl 2)), some (.inl law), some (.inl a), some (.inl b), some (.inl c)], [.inl 6, .inl law, .inl b, .inl a, .inr (.inl 2)], mW (n, T, h, t, x) M, 0, 0)) rfl ?_
      refine m_icmp rfl ⟨by omega, by omega⟩ ⟨by omega, by omega⟩ (fun (zc2 : ¬ law = 6) => ?_) (fun (zc2 : ¬ ¬ law = 6) => ?_)
      · refine m_run 1 (ps' := (240, [some (.inr (.inl 2)), some (.inl law), some (.inl a), some (.inl b), some (.inl c)], [.inl 0, .inl b, .inl a, .inr (.inl 2)], mW (n, T, h, t, x) M, 0, 0)) rfl ?_
        refine m_callSF [.inr (.inl 2), .inl a, .inl b, .inl 0] [] rfl rfl rfl (k_once (a := a) (b := b) (r := false) hR (by omega) (by omega) (by omega) (by omega)) ?_
        have zt1 := onceS_in n tb false a b
        show m_Sem X 7 (243, [some (.inr (.inl 2)), some (.inl law), some (.inl a), some (.inl b), some (.inl c)], [.inl (onceS n tb false a b)], mW (n, T, h, t, x) M, 0, 0) _
        refine m_run 2 (ps' := (247, [some (.inr (.inl 2)), some (.inl law), some (.inl a), some (.inl b), some (.inl c)], [.inl n, .inl (onceS n tb false a b)], mW (n, T, h, t, x) M, 0, 0)) rfl ?_
        refine m_icmp rfl ⟨by omega, by omega⟩ ⟨by omega, by omega⟩ (fun (zc3 : ¬ (onceS n tb false a b) = n) => ?_) (fun (zc3 : ¬ ¬ (onceS n tb false a b) = n) => ?_)
        · refine m_run 1 (ps' := (255, [some (.inr (.inl 2)), some (.inl law), some (.inl a), some (.inl b), some (.inl c)], [.inl 0], mW (n, T, h, t, x) M, 0, 0)) rfl ?_
          exact m_ret1 rfl (Or.inr ⟨rfl, Or.inl rfl⟩) rfl (m_Vb (b0 (by unfold holdsS; simp only [show ¬ law = 0 by omega, show ¬ law = 1 by omega, show ¬ law = 2 by omega, show ¬ law = 3 by omega, show ¬ law = 4 by omega, show ¬ law = 5 by omega, if_false]; simp [*])))
        · replace zc3 : (onceS n tb false a b) = n := Decidable.not_not.mp zc3
          refine m_run 2 (ps' := (255, [some (.inr (.inl 2)), some (.inl law), some (.inl a), some (.inl b), some (.inl c)], [.inl 1], mW (n, T, h, t, x) M, 0, 0)) rfl ?_
          exact m_ret1 rfl (Or.inr ⟨rfl, Or.inr rfl⟩) rfl (m_Vb (b1 (by unfold holdsS; simp only [show ¬ law = 0 by omega, show ¬ law = 1 by omega, show ¬ law = 2 by omega, show ¬ law = 3 by omega, show ¬ law = 4 by omega, show ¬ law = 5 by omega, if_false]; simp [*])))
      · replace zc2 : law = 6 := Decidable.not_not.mp zc2
        refine m_run 2 (ps' := (240, [some (.inr (.inl 2)), some (.inl law), some (.inl a), some (.inl b), some (.inl c)], [.inl 1, .inl b, .inl a, .inr (.inl 2)], mW (n, T, h, t, x) M, 0, 0)) rfl ?_
        refine m_callSF [.inr (.inl 2), .inl a, .inl b, .inl 1] [] rfl rfl rfl (k_once (a := a) (b := b) (r := true) hR (by omega) (by omega) (by omega) (by omega)) ?_
        have zt1 := onceS_in n tb true a b
        show m_Sem X 7 (243, [some (.inr (.inl 2)), some (.inl law), some (.inl a), some (.inl b), some (.inl c)], [.inl (onceS n tb true a b)], mW (n, T, h, t, x) M, 0, 0) _
        refine m_run 2 (ps' := (247, [some (.inr (.inl 2)), some (.inl law), some (.inl a), some (.inl b), some (.inl c)], [.inl n, .inl (onceS n tb true a b)], mW (n, T, h, t, x) M, 0, 0)) rfl ?_
        refine m_icmp rfl ⟨by omega, by omega⟩ ⟨by omega, by omega⟩ (fun (zc3 : ¬ (onceS n tb true a b) = n) => ?_) (fun (zc3 : ¬ ¬ (onceS n tb true a b) = n) => ?_)
        · refine m_run 1 (ps' := (255, [some (.inr (.inl 2)), some (.inl law), some (.inl a), some (.inl b), some (.inl c)], [.inl 0], mW (n, T, h, t, x) M, 0, 0)) rfl ?_
          exact m_ret1 rfl (Or.inr ⟨rfl, Or.inl rfl⟩) rfl (m_Vb (b0 (by unfold holdsS; simp only [show ¬ law = 0 by omega, show ¬ law = 1 by omega, show ¬ law = 2 by omega, show ¬ law = 3 by omega, show ¬ law = 4 by omega, show ¬ law = 5 by omega, if_false]; simp [*])))
        · replace zc3 : (onceS n tb true a b) = n := Decidable.not_not.mp zc3
          refine m_run 2 (ps' := (255, [some (.inr (.inl 2)), some (.inl law), some (.inl a), some (.inl b), some (.inl c)], [.inl 1], mW (n, T, h, t, x) M, 0, 0)) rfl ?_
          exact m_ret1 rfl (Or.inr ⟨rfl, Or.inr rfl⟩) rfl (m_Vb (b1 (by unfold holdsS; simp only [show ¬ law = 0 by omega, show ¬ law = 1 by omega, show ¬ law = 2 by omega, show ¬ law = 3 by omega, show ¬ law = 4 by omega, show ¬ law = 5 by omega, if_false]; simp [*])))
/-- the first row (a, b, c) by which a law fails -/
def witC (n : Int) (tb : Int → Int → Int) (law lc a b : Int) : Int → Option (Int × Int × Int) := fun c => if holdsS n tb law a b c = true then none else some (a, b, c)
def witB (n : Int) (tb : Int → Int → Int) (law lc a : Int) : Int → Option (Int × Int × Int) := fun b => optF (witC n tb law lc a b) lc.toNat 0
def witA (n : Int) (tb : Int → Int → Int) (law lb lc : Int) : Int → Option (Int × Int × Int) := fun a => optF (witB n tb law lc a) lb.toNat 0
def lbS (n law : Int) : Int := if 1 < law then n else 1
def lcS (n law : Int) : Int := if 1 < law ∧ law < 5 then n else 1
def witS (n : Int) (tb : Int → Int → Int) (law : Int) : Option (Int × Int × Int) := optF (witA n tb law (lbS n law) (lcS n law)) n.toNat 0
def wcode : Option (Int × Int × Int) → Int
  | none => -1
  | some (a, b, c) => 81 * a + 9 * b + c
set_option maxHeartbeats 4000000 in
set_option maxRecDepth 100000 in
theorem l_witC {X : Nat × Nat × (Nat → Int32)} {n : Int} {T : Int → Int} {h : HS} {t : TS} {x : XS} {M : MS} {tb : Int → Int → Int} {law lb lc : Int} {Q : Option mPV → mPW → Prop} {o : Option (Int × Int × Int)} (hR : repC n T tb) (hw : 0 ≤ law) (hw2 : law < 8) (hlb : 1 ≤ lb) (hlb2 : lb ≤ n) (hlc : 1 ≤ lc) (hlc2 : lc ≤ n) {a b : Int} (ha : 0 ≤ a) (ha2 : a < n) (hb : 0 ≤ b) (hb2 : b < lb) (K : o = none → m_Sem X 5 (48, [some (.inr (.inl 2)), some (.inl law), some (.inl lb), some (.inl lc), some (.inl a), some (.inl (b + 1)), none], [], mW (n, T, h, t, x) M, 0, 0) Q) (R : o ≠ none → Q (some (.inl (wcode o))) (mW (n, T, h, t, x) M)) : ∀ c : Int, 0 ≤ c → c ≤ lc → ∀ (ho : optF (witC n tb law lc a b) (lc - c).toNat c = o), m_Sem X 5 (57, [some (.inr (.inl 2)), some (.inl law), some (.inl lb), some (.inl lc), some (.inl a), some (.inl b), some (.inl c)], [], mW (n, T, h, t, x) M, 0, 0) (Q) := by
  have hn := hR.1
  have hl := okN_lo hn
  refine m_down 0 lc ?_ ?_
  · intro ho
    rw [opt_end] at ho
    show m_Sem X 5 (57, [some (.inr (.inl 2)), some (.inl law), some (.inl lb), some (.inl lc), some (.inl a), some (.inl b), some (.inl lc)], [], mW (n, T, h, t, x) M, 0, 0) _
    refine m_run 2 (ps' := (60, [some (.inr (.inl 2)), some (.inl law), some (.inl lb), some (.inl lc), some (.inl a), some (.inl b), some (.inl lc)], [.inl lc, .inl lc], mW (n, T, h, t, x) M, 0, 0)) rfl ?_
    refine m_icmp rfl ⟨by omega, by omega⟩ ⟨by omega, by omega⟩ (fun (zc1 : lc ≤ lc) => ?_) (fun (zc1 : ¬ lc ≤ lc) => absurd zc1 (not_not_intro (by omega)))
    refine m_run 2 (ps' := (48, [some (.inr (.inl 2)), some (.inl law), some (.inl lb), some (.inl lc), some (.inl a), some (.inl (b + 1)), some (.inl lc)], [], mW (n, T, h, t, x) M, 0, 0)) rfl ?_
    refine m_weak [some (.inr (.inl 2)), some (.inl law), some (.inl lb), some (.inl lc), some (.inl a), some (.inl (b + 1)), none] ⟨rfl, ⟨rfl, ⟨rfl, ⟨rfl, ⟨rfl, ⟨rfl, trivial⟩⟩⟩⟩⟩⟩ ?_
    exact K ho.symm
  · intro c hi1 hi2 ih ho
    refine m_run 2 (ps' := (60, [some (.inr (.inl 2)), some (.inl law), some (.inl lb), some (.inl lc), some (.inl a), some (.inl b), some (.inl c)], [.inl lc, .inl c], mW (n, T, h, t, x) M, 0, 0)) rfl ?_
    refine m_icmp rfl ⟨by omega, by omega⟩ ⟨by omega, by omega⟩ (fun (zc1 : lc ≤ c) => absurd zc1 (by omega)) (fun (zc1 : ¬ lc ≤ c) => ?_)
    refine m_run 5 (ps' := (71, [some (.inr (.inl 2)), some (.inl law), some (.inl lb), some (.inl lc), some (.inl a), some (.inl b), some (.inl c)], [.inl c, .inl b, .inl a, .inl law, .inr (.inl 2)], mW (n, T, h, t, x) M, 0, 0)) rfl ?_
    refine m_callSF [.inr (.inl 2), .inl law, .inl a, .inl b, .inl c] [] rfl rfl rfl (k_holds (law := law) (a := a) (b := b) (c := c) hR (by omega) (by omega) (by omega) (by omega) (by omega) (by omega) (by omega) (by omega)) ?_
    show m_Sem X 5 (74, [some (.inr (.inl 2)), some (.inl law), some (.inl lb), some (.inl lc), some (.inl a), some (.inl b), some (.inl c)], [.inl (bI (holdsS n tb law a b c))], mW (n, T, h, t, x) M, 0, 0) _
    refine m_if rfl (bI_R (holdsS n tb law a b c)) (fun (zc2 : ¬ (bI (holdsS n tb law a b c)) = 0) => ?_) (fun (zc2 : ¬ ¬ (bI (holdsS n tb law a b c)) = 0) => ?_)
    · replace zc2 : (holdsS n tb law a b c) = true := bI_n0.mp zc2
      refine m_run 2 (ps' := (57, [some (.inr (.inl 2)), some (.inl law), some (.inl lb), some (.inl lc), some (.inl a), some (.inl b), some (.inl (c + 1))], [], mW (n, T, h, t, x) M, 0, 0)) rfl ?_
      refine m_weak [some (.inr (.inl 2)), some (.inl law), some (.inl lb), some (.inl lc), some (.inl a), some (.inl b), some (.inl (c + 1))] ⟨rfl, ⟨rfl, ⟨rfl, ⟨rfl, ⟨rfl, ⟨rfl, ⟨rfl, trivial⟩⟩⟩⟩⟩⟩⟩ ?_
      have hh : witC n tb law lc a b c = none := by unfold witC; rw [if_pos zc2]
      rw [opt_n hi2 hh] at ho
      exact ih ho
    · replace zc2 : (holdsS n tb law a b c) = false := bI_e0.mp (Decidable.not_not.mp zc2)
      refine m_run 9 (ps' := (91, [some (.inr (.inl 2)), some (.inl law), some (.inl lb), some (.inl lc), some (.inl a), some (.inl b), some (.inl c)], [.inl (((81 * a) + (9 * b)) + c)], mW (n, T, h, t, x) M, 0, 0)) rfl ?_
      exact m_ret1 rfl (Or.inl rfl) rfl (by
        have hh : witC n tb law lc a b c = some (a, b, c) := by unfold witC; rw [if_neg (by rw [zc2]; decide)]
        rw [opt_s hi2 hh] at ho
        subst ho
        exact R (fun h => by cases h))
set_option maxHeartbeats 4000000 in
set_option maxRecDepth 100000 in
theorem l_witB {X : Nat × Nat × (Nat → Int32)} {n : Int} {T : Int → Int} {h : HS} {t : TS} {x : XS} {M : MS} {tb : Int → Int → Int} {law lb lc : Int} {Q : Option mPV → mPW → Prop} {o : Option (Int × Int × Int)} (hR : repC n T tb) (hw : 0 ≤ law) (hw2 : law < 8) (hlb : 1 ≤ lb) (hlb2 : lb ≤ n) (hlc : 1 ≤ lc) (hlc2 : lc ≤ n) {a : Int} (ha : 0 ≤ a) (ha2 : a < n) (K : o = none → m_Sem X 5 (36, [some (.inr (.inl 2)), some (.inl law), some (.inl lb), some (.inl lc), some (.inl (a + 1)), none, none], [], mW (n, T, h, t, x) M, 0, 0) Q) (R : o ≠ none → Q (some (.inl (wcode o))) (mW (n, T, h, t, x) M)) : ∀ b : Int, 0 ≤ b → b ≤ lb → ∀ (ho : optF (witB n tb law lc a) (lb - b).toNat b = o), m_Sem X 5 (48, [some (.inr (.inl 2)), some (.inl law), some (.inl lb), some (.inl lc), some (.inl a), some (.inl b), none], [], mW (n, T, h, t, x) M, 0, 0) (Q) := by
  have hn := hR.1
  have hl := okN_lo hn
  refine m_down 0 lb ?_ ?_
  · intro ho
    rw [opt_end] at ho
    show m_Sem X 5 (48, [some (.inr (.inl 2)), some (.inl law), some (.inl lb), some (.inl lc), some (.inl a), some (.inl lb), none], [], mW (n, T, h, t, x) M, 0, 0) _
    refine m_run 2 (ps' := (51, [some (.inr (.inl 2)), some (.inl law), some (.inl lb), some (.inl lc), some (.inl a), some (.inl lb), none], [.inl lb, .inl lb], mW (n, T, h, t, x) M, 0, 0)) rfl ?_
    refine m_icmp rfl ⟨by omega, by omega⟩ ⟨by omega, by omega⟩ (fun (zc1 : lb ≤ lb) => ?_) (fun (zc1 : ¬ lb ≤ lb) => absurd zc1 (not_not_intro (by omega)))
    refine m_run 2 (ps' := (36, [some (.inr (.inl 2)), some (.inl law), some (.inl lb), some (.inl lc), some (.inl (a + 1)), some (.inl lb), none], [], mW (n, T, h, t, x) M, 0, 0)) rfl ?_
    refine m_weak [some (.inr (.inl 2)), some (.inl law), some (.inl lb), some (.inl lc), some (.inl (a + 1)), none, none] ⟨rfl, ⟨rfl, ⟨rfl, ⟨rfl, ⟨rfl, trivial⟩⟩⟩⟩⟩ ?_
    exact K ho.symm
  · intro b hi1 hi2 ih ho
    refine m_run 2 (ps' := (51, [some (.inr (.inl 2)), some (.inl law), some (.inl lb), some (.inl lc), some (.inl a), some (.inl b), none], [.inl lb, .inl b], mW (n, T, h, t, x) M, 0, 0)) rfl ?_
    refine m_icmp rfl ⟨by omega, by omega⟩ ⟨by omega, by omega⟩ (fun (zc1 : lb ≤ b) => absurd zc1 (by omega)) (fun (zc1 : ¬ lb ≤ b) => ?_)
    refine m_run 2 (ps' := (57, [some (.inr (.inl 2)), some (.inl law), some (.inl lb), some (.inl lc), some (.inl a), some (.inl b), some (.inl 0)], [], mW (n, T, h, t, x) M, 0, 0)) rfl ?_
    refine m_weak [some (.inr (.inl 2)), some (.inl law), some (.inl lb), some (.inl lc), some (.inl a), some (.inl b), some (.inl 0)] ⟨rfl, ⟨rfl, ⟨rfl, ⟨rfl, ⟨rfl, ⟨rfl, ⟨rfl, trivial⟩⟩⟩⟩⟩⟩⟩ ?_
    cases hh : witB n tb law lc a b with
    | none =>
      rw [opt_n hi2 hh] at ho
      exact l_witC (o := none) hR hw hw2 hlb hlb2 hlc hlc2 ha ha2 hi1 hi2 (fun _ => ih ho) (fun h => absurd rfl h) 0 (by omega) (by omega) (by rw [z_sub]; exact hh)
    | some w9 =>
      rw [opt_s hi2 hh] at ho
      subst ho
      exact l_witC (o := some w9) hR hw hw2 hlb hlb2 hlc hlc2 ha ha2 hi1 hi2 (fun h => by cases h) R 0 (by omega) (by omega) (by rw [z_sub]; exact hh)
set_option maxHeartbeats 4000000 in
set_option maxRecDepth 100000 in
theorem l_witA {X : Nat × Nat × (Nat → Int32)} {n : Int} {T : Int → Int} {h : HS} {t : TS} {x : XS} {M : MS} {tb : Int → Int → Int} {law lb lc : Int} {Q : Option mPV → mPW → Prop} {o : Option (Int × Int × Int)} (hR : repC n T tb) (hw : 0 ≤ law) (hw2 : law < 8) (hlb : 1 ≤ lb) (hlb2 : lb ≤ n) (hlc : 1 ≤ lc) (hlc2 : lc ≤ n) (R : Q (some (.inl (wcode o))) (mW (n, T, h, t, x) M)) : ∀ a : Int, 0 ≤ a → a ≤ n → ∀ (ho : optF (witA n tb law lb lc) (n - a).toNat a = o), m_Sem X 5 (36, [some (.inr (.inl 2)), some (.inl law), some (.inl lb), some (.inl lc), some (.inl a), none, none], [], mW (n, T, h, t, x) M, 0, 0) (Q) := by
  have hn := hR.1
  have hl := okN_lo hn
  refine m_down 0 n ?_ ?_
  · intro ho
    show m_Sem X 5 (36, [some (.inr (.inl 2)), some (.inl law), some (.inl lb), some (.inl lc), some (.inl n), none, none], [], mW (n, T, h, t, x) M, 0, 0) _
    refine m_run 3 (ps' := (42, [some (.inr (.inl 2)), some (.inl law), some (.inl lb), some (.inl lc), some (.inl n), none, none], [.inl n, .inl n], mW (n, T, h, t, x) M, 0, 0)) rfl ?_
    refine m_icmp rfl ⟨by omega, by omega⟩ ⟨by omega, by omega⟩ (fun (zc1 : n ≤ n) => ?_) (fun (zc1 : ¬ n ≤ n) => absurd zc1 (not_not_intro (by omega)))
    refine m_run 1 (ps' := (111, [some (.inr (.inl 2)), some (.inl law), some (.inl lb), some (.inl lc), some (.inl n), none, none], [.inl (-1)], mW (n, T, h, t, x) M, 0, 0)) rfl ?_
    exact m_ret1 rfl (Or.inl rfl) rfl (by rw [opt_end] at ho; subst ho; exact R)
  · intro a hi1 hi2 ih ho
    refine m_run 3 (ps' := (42, [some (.inr (.inl 2)), some (.inl law), some (.inl lb), some (.inl lc), some (.inl a), none, none], [.inl n, .inl a], mW (n, T, h, t, x) M, 0, 0)) rfl ?_
    refine m_icmp rfl ⟨by omega, by omega⟩ ⟨by omega, by omega⟩ (fun (zc1 : n ≤ a) => absurd zc1 (by omega)) (fun (zc1 : ¬ n ≤ a) => ?_)
    refine m_run 2 (ps' := (48, [some (.inr (.inl 2)), some (.inl law), some (.inl lb), some (.inl lc), some (.inl a), some (.inl 0), none], [], mW (n, T, h, t, x) M, 0, 0)) rfl ?_
    refine m_weak [some (.inr (.inl 2)), some (.inl law), some (.inl lb), some (.inl lc), some (.inl a), some (.inl 0), none] ⟨rfl, ⟨rfl, ⟨rfl, ⟨rfl, ⟨rfl, ⟨rfl, trivial⟩⟩⟩⟩⟩⟩ ?_
    cases hh : witA n tb law lb lc a with
    | none =>
      rw [opt_n hi2 hh] at ho
      exact l_witB (o := none) hR hw hw2 hlb hlb2 hlc hlc2 hi1 hi2 (fun _ => ih ho) (fun h => absurd rfl h) 0 (by omega) (by omega) (by rw [z_sub]; exact hh)
    | some w9 =>
      rw [opt_s hi2 hh] at ho
      subst ho
      exact l_witB (o := some w9) hR hw hw2 hlb hlb2 hlc hlc2 hi1 hi2 (fun h => by cases h) (fun _ => R) 0 (by omega) (by omega) (by rw [z_sub]; exact hh)
set_option maxHeartbeats 4000000 in
set_option maxRecDepth 100000 in
theorem k_wit {X : Nat × Nat × (Nat → Int32)} {n : Int} {T : Int → Int} {h : HS} {t : TS} {x : XS} {M : MS} {tb : Int → Int → Int} {law : Int} (hR : repC n T tb) (hw : 0 ≤ law) (hw2 : law < 8) : m_Run X 5 [.inr (.inl 2), .inl law] (mW (n, T, h, t, x) M) (m_V (wcode (witS n tb law)) (mW (n, T, h, t, x) M)) := by
  have hn := hR.1
  have hl := okN_lo hn
  show m_Sem X 5 (0, [some (.inr (.inl 2)), some (.inl law), none, none, none, none, none], [], mW (n, T, h, t, x) M, 0, 0) _
  refine m_run 2 (ps' := (2, [some (.inr (.inl 2)), some (.inl law), none, none, none, none, none], [.inl 1, .inl law], mW (n, T, h, t, x) M, 0, 0)) rfl ?_
  refine m_icmp rfl ⟨by omega, by omega⟩ ⟨by omega, by omega⟩ (fun (zc1 : law ≤ 1) => ?_) (fun (zc1 : ¬ law ≤ 1) => ?_)
  · refine m_run 4 (ps' := (16, [some (.inr (.inl 2)), some (.inl law), some (.inl 1), none, none, none, none], [.inl 1, .inl law], mW (n, T, h, t, x) M, 0, 0)) rfl ?_
    refine m_icmp rfl ⟨by omega, by omega⟩ ⟨by omega, by omega⟩ (fun (zc2 : law ≤ 1) => ?_) (fun (zc2 : ¬ law ≤ 1) => ?_)
    · refine m_run 4 (ps' := (36, [some (.inr (.inl 2)), some (.inl law), some (.inl 1), some (.inl 1), some (.inl 0), none, none], [], mW (n, T, h, t, x) M, 0, 0)) rfl ?_
      refine m_weak [some (.inr (.inl 2)), some (.inl law), some (.inl 1), some (.inl 1), some (.inl 0), none, none] ⟨rfl, ⟨rfl, ⟨rfl, ⟨rfl, ⟨rfl, trivial⟩⟩⟩⟩⟩ ?_
      exact l_witA (lb := 1) (lc := 1) (o := witS n tb law) hR hw hw2 (by omega) (by omega) (by omega) (by omega) ⟨rfl, rfl⟩ 0 (by omega) (by omega) (by rw [z_sub]; unfold witS lbS lcS; rw [if_neg (by omega), if_neg (by omega)])
    · refine m_run 2 (ps' := (21, [some (.inr (.inl 2)), some (.inl law), some (.inl 1), none, none, none, none], [.inl 5, .inl law], mW (n, T, h, t, x) M, 0, 0)) rfl ?_
      refine m_icmp rfl ⟨by omega, by omega⟩ ⟨by omega, by omega⟩ (fun (zc3 : 5 ≤ law) => ?_) (fun (zc3 : ¬ 5 ≤ law) => ?_)
      · refine m_run 4 (ps' := (36, [some (.inr (.inl 2)), some (.inl law), some (.inl 1), some (.inl 1), some (.inl 0), none, none], [], mW (n, T, h, t, x) M, 0, 0)) rfl ?_
        refine m_weak [some (.inr (.inl 2)), some (.inl law), some (.inl 1), some (.inl 1), some (.inl 0), none, none] ⟨rfl, ⟨rfl, ⟨rfl, ⟨rfl, ⟨rfl, trivial⟩⟩⟩⟩⟩ ?_
        exact l_witA (lb := 1) (lc := 1) (o := witS n tb law) hR hw hw2 (by omega) (by omega) (by omega) (by omega) ⟨rfl, rfl⟩ 0 (by omega) (by omega) (by rw [z_sub]; unfold witS lbS lcS; rw [if_neg (by omega), if_neg (by omega)])
      · refine m_run 6 (ps' := (36, [some (.inr (.inl 2)), some (.inl law), some (.inl 1), some (.inl n), some (.inl 0), none, none], [], mW (n, T, h, t, x) M, 0, 0)) rfl ?_
        refine m_weak [some (.inr (.inl 2)), some (.inl law), some (.inl 1), some (.inl n), some (.inl 0), none, none] ⟨rfl, ⟨rfl, ⟨rfl, ⟨rfl, ⟨rfl, trivial⟩⟩⟩⟩⟩ ?_
        exact l_witA (lb := 1) (lc := n) (o := witS n tb law) hR hw hw2 (by omega) (by omega) (by omega) (by omega) ⟨rfl, rfl⟩ 0 (by omega) (by omega) (by rw [z_sub]; unfold witS lbS lcS; rw [if_neg (by omega), if_pos (by omega)])
  · refine m_run 6 (ps' := (16, [some (.inr (.inl 2)), some (.inl law), some (.inl n), none, none, none, none], [.inl 1, .inl law], mW (n, T, h, t, x) M, 0, 0)) rfl ?_
    refine m_icmp rfl ⟨by omega, by omega⟩ ⟨by omega, by omega⟩ (fun (zc2 : law ≤ 1) => ?_) (fun (zc2 : ¬ law ≤ 1) => ?_)
    · refine m_run 4 (ps' := (36, [some (.inr (.inl 2)), some (.inl law), some (.inl n), some (.inl 1), some (.inl 0), none, none], [], mW (n, T, h, t, x) M, 0, 0)) rfl ?_
      refine m_weak [some (.inr (.inl 2)), some (.inl law), some (.inl n), some (.inl 1), some (.inl 0), none, none] ⟨rfl, ⟨rfl, ⟨rfl, ⟨rfl, ⟨rfl, trivial⟩⟩⟩⟩⟩ ?_
      exact l_witA (lb := n) (lc := 1) (o := witS n tb law) hR hw hw2 (by omega) (by omega) (by omega) (by omega) ⟨rfl, rfl⟩ 0 (by omega) (by omega) (by rw [z_sub]; unfold witS lbS lcS; rw [if_pos (by omega), if_neg (by omega)])
    · refine m_run 2 (ps' := (21, [some (.inr (.inl 2)), some (.inl law), some (.inl n), none, none, none, none], [.inl 5, .inl law], mW (n, T, h, t, x) M, 0, 0)) rfl ?_
      refine m_icmp rfl ⟨by omega, by omega⟩ ⟨by omega, by omega⟩ (fun (zc3 : 5 ≤ law) => ?_) (fun (zc3 : ¬ 5 ≤ law) => ?_)
      · refine m_run 4 (ps' := (36, [some (.inr (.inl 2)), some (.inl law), some (.inl n), some (.inl 1), some (.inl 0), none, none], [], mW (n, T, h, t, x) M, 0, 0)) rfl ?_
        refine m_weak [some (.inr (.inl 2)), some (.inl law), some (.inl n), some (.inl 1), some (.inl 0), none, none] ⟨rfl, ⟨rfl, ⟨rfl, ⟨rfl, ⟨rfl, trivial⟩⟩⟩⟩⟩ ?_
        exact l_witA (lb := n) (lc := 1) (o := witS n tb law) hR hw hw2 (by omega) (by omega) (by omega) (by omega) ⟨rfl, rfl⟩ 0 (by omega) (by omega) (by rw [z_sub]; unfold witS lbS lcS; rw [if_pos (by omega), if_neg (by omega)])
      · refine m_run 6 (ps' := (36, [some (.inr (.inl 2)), some (.inl law), some (.inl n), some (.inl n), some (.inl 0), none, none], [], mW (n, T, h, t, x) M, 0, 0)) rfl ?_
        refine m_weak [some (.inr (.inl 2)), some (.inl law), some (.inl n), some (.inl n), some (.inl 0), none, none] ⟨rfl, ⟨rfl, ⟨rfl, ⟨rfl, ⟨rfl, trivial⟩⟩⟩⟩⟩ ?_
        exact l_witA (lb := n) (lc := n) (o := witS n tb law) hR hw hw2 (by omega) (by omega) (by omega) (by omega) ⟨rfl, rfl⟩ 0 (by omega) (by omega) (by rw [z_sub]; unfold witS lbS lcS; rw [if_pos (by omega), if_pos (by omega)])
theorem opt_some {α : Type} {f : Int → Option α} {a : α} : ∀ (k : Nat) (i : Int), optF f k i = some a → ∃ j, i ≤ j ∧ j < i + k ∧ f j = some a ∧ ∀ j', i ≤ j' → j' < j → f j' = none
  | 0, _, h => by cases h
  | k + 1, i, h => by
    unfold optF at h
    split at h
    next b hb =>
      cases h
      exact ⟨i, by omega, by omega, hb, fun j' h1 h2 => absurd h2 (by omega)⟩
    next hb =>
      obtain ⟨j, h1, h2, h3, h4⟩ := opt_some k (i + 1) h
      refine ⟨j, by omega, by omega, h3, fun j' g1 g2 => ?_⟩
      by_cases he : j' = i
      · rw [he]; exact hb
      · exact h4 j' (by omega) g2
theorem witS_in {n : Int} {tb : Int → Int → Int} {law : Int} (hn : okN n) {a b c : Int} (h : witS n tb law = some (a, b, c)) : (0 ≤ a ∧ a < n) ∧ (0 ≤ b ∧ b < n) ∧ (0 ≤ c ∧ c < n) := by
  have hl := okN_lo hn
  have e1 : 1 ≤ lbS n law ∧ lbS n law ≤ n := by unfold lbS; split <;> omega
  have e2 : 1 ≤ lcS n law ∧ lcS n law ≤ n := by unfold lcS; split <;> omega
  obtain ⟨a', h1, h2, h3, -⟩ := opt_some _ _ h
  obtain ⟨b', h4, h5, h6, -⟩ := opt_some _ _ h3
  obtain ⟨c', h7, h8, h9, -⟩ := opt_some _ _ h6
  unfold witC at h9
  split at h9
  · cases h9
  · cases h9
    omega
theorem wcode_in {n : Int} {tb : Int → Int → Int} {law : Int} (hn : okN n) : -1 ≤ wcode (witS n tb law) ∧ wcode (witS n tb law) < 729 := by
  have hl := okN_lo hn
  cases h : witS n tb law with
  | none => exact ⟨by decide, by decide⟩
  | some w =>
    obtain ⟨a, b, c⟩ := w
    have h1 := witS_in hn h
    show -1 ≤ 81 * a + 9 * b + c ∧ 81 * a + 9 * b + c < 729
    omega
def welS (w j : Int) : Int := if j = 1 then w / 81 else if j = 2 then w / 9 % 9 else w % 9
set_option maxHeartbeats 4000000 in
set_option maxRecDepth 100000 in
theorem k_wel {X : Nat × Nat × (Nat → Int32)} {n : Int} {T : Int → Int} {h : HS} {t : TS} {x : XS} {M : MS} {w0 j : Int} (h1 : 0 ≤ w0) (h2 : w0 < 729) (hj : m_R j) : m_Run X 6 [.inl w0, .inl j] (mW (n, T, h, t, x) M) (m_V (welS w0 j) (mW (n, T, h, t, x) M)) := by
  show m_Sem X 6 (0, [some (.inl w0), some (.inl j)], [], mW (n, T, h, t, x) M, 0, 0) _
  refine m_run 2 (ps' := (2, [some (.inl w0), some (.inl j)], [.inl 1, .inl j], mW (n, T, h, t, x) M, 0, 0)) rfl ?_
  refine m_icmp rfl hj ⟨by omega, by omega⟩ (fun (zc1 : ¬ j = 1) => ?_) (fun (zc1 : ¬ ¬ j = 1) => ?_)
  · refine m_run 2 (ps' := (12, [some (.inl w0), some (.inl j)], [.inl 2, .inl j], mW (n, T, h, t, x) M, 0, 0)) rfl ?_
    refine m_icmp rfl hj ⟨by omega, by omega⟩ (fun (zc2 : ¬ j = 2) => ?_) (fun (zc2 : ¬ ¬ j = 2) => ?_)
    · refine m_run 2 (ps' := (28, [some (.inl w0), some (.inl j)], [.inl 9, .inl w0], mW (n, T, h, t, x) M, 0, 0)) rfl ?_
      refine m_rem rfl (by omega) (by omega) (by omega) (by omega) ?_
      exact m_ret1 rfl (Or.inl rfl) rfl (m_Vi (by unfold welS; (repeat' split) <;> first | rfl | omega))
    · replace zc2 : j = 2 := Decidable.not_not.mp zc2
      refine m_run 2 (ps' := (18, [some (.inl w0), some (.inl j)], [.inl 9, .inl w0], mW (n, T, h, t, x) M, 0, 0)) rfl ?_
      refine m_div rfl (by omega) (by omega) (by omega) (by omega) ?_
      refine m_run 1 (ps' := (21, [some (.inl w0), some (.inl j)], [.inl 9, .inl (w0 / 9)], mW (n, T, h, t, x) M, 0, 0)) rfl ?_
      refine m_rem rfl (by omega) (by omega) (by omega) (by omega) ?_
      refine m_run 1 (ps' := (29, [some (.inl w0), some (.inl j)], [.inl ((w0 / 9) % 9)], mW (n, T, h, t, x) M, 0, 0)) rfl ?_
      exact m_ret1 rfl (Or.inl rfl) rfl (m_Vi (by unfold welS; (repeat' split) <;> first | rfl | omega))
  · replace zc1 : j = 1 := Decidable.not_not.mp zc1
    refine m_run 2 (ps' := (8, [some (.inl w0), some (.inl j)], [.inl 81, .inl w0], mW (n, T, h, t, x) M, 0, 0)) rfl ?_
    refine m_div rfl (by omega) (by omega) (by omega) (by omega) ?_
    exact m_ret1 rfl (Or.inl rfl) rfl (m_Vi (by unfold welS; (repeat' split) <;> first | rfl | omega))
def fitsS (n : Int) (tb : Int → Int → Int) (j a b c : Int) : Bool := if j = 0 then holdsS n tb 5 a b 0 else if j = 1 then holdsS n tb 3 b c a else holdsS n tb 4 a b c
set_option maxHeartbeats 4000000 in
set_option maxRecDepth 100000 in
theorem k_fits {X : Nat × Nat × (Nat → Int32)} {n : Int} {T : Int → Int} {h : HS} {t : TS} {x : XS} {M : MS} {tb : Int → Int → Int} {j a b c : Int} (hR : repC n T tb) (hj : 0 ≤ j) (hj2 : j < 3) (ha : 0 ≤ a) (ha2 : a < n) (hb : 0 ≤ b) (hb2 : b < n) (hc : 0 ≤ c) (hc2 : c < n) : m_Run X 9 [.inr (.inl 2), .inl j, .inl a, .inl b, .inl c] (mW (n, T, h, t, x) M) (m_V (bI (fitsS n tb j a b c)) (mW (n, T, h, t, x) M)) := by
  have hn := hR.1
  have hl := okN_lo hn
  show m_Sem X 9 (0, [some (.inr (.inl 2)), some (.inl j), some (.inl a), some (.inl b), some (.inl c)], [], mW (n, T, h, t, x) M, 0, 0) _
  refine m_run 1 (ps' := (1, [some (.inr (.inl 2)), some (.inl j), some (.inl a), some (.inl b), some (.inl c)], [.inl j], mW (n, T, h, t, x) M, 0, 0)) rfl ?_
  refine m_if rfl ⟨by omega, by omega⟩ (fun (zc1 : ¬ j = 0) => ?_) (fun (zc1 : ¬ ¬ j = 0) => ?_)
  · refine m_run 2 (ps' := (15, [some (.inr (.inl 2)), some (.inl j), some (.inl a), some (.inl b), some (.inl c)], [.inl 1, .inl j], mW (n, T, h, t, x) M, 0, 0)) rfl ?_
    refine m_icmp rfl ⟨by omega, by omega⟩ ⟨by omega, by omega⟩ (fun (zc2 : ¬ j = 1) => ?_) (fun (zc2 : ¬ ¬ j = 1) => ?_)
    · refine m_run 5 (ps' := (36, [some (.inr (.inl 2)), some (.inl j), some (.inl a), some (.inl b), some (.inl c)], [.inl c, .inl b, .inl a, .inl 4, .inr (.inl 2)], mW (n, T, h, t, x) M, 0, 0)) rfl ?_
      refine m_callSF [.inr (.inl 2), .inl 4, .inl a, .inl b, .inl c] [] rfl rfl rfl (k_holds (law := 4) (a := a) (b := b) (c := c) hR (by omega) (by omega) (by omega) (by omega) (by omega) (by omega) (by omega) (by omega)) ?_
      show m_Sem X 9 (39, [some (.inr (.inl 2)), some (.inl j), some (.inl a), some (.inl b), some (.inl c)], [.inl (bI (holdsS n tb 4 a b c))], mW (n, T, h, t, x) M, 0, 0) _
      exact m_ret1 rfl (Or.inr ⟨rfl, bI_01 (holdsS n tb 4 a b c)⟩) rfl (m_Vb (by unfold fitsS; (repeat' split) <;> first | rfl | omega))
    · replace zc2 : j = 1 := Decidable.not_not.mp zc2
      refine m_run 5 (ps' := (24, [some (.inr (.inl 2)), some (.inl j), some (.inl a), some (.inl b), some (.inl c)], [.inl a, .inl c, .inl b, .inl 3, .inr (.inl 2)], mW (n, T, h, t, x) M, 0, 0)) rfl ?_
      refine m_callSF [.inr (.inl 2), .inl 3, .inl b, .inl c, .inl a] [] rfl rfl rfl (k_holds (law := 3) (a := b) (b := c) (c := a) hR (by omega) (by omega) (by omega) (by omega) (by omega) (by omega) (by omega) (by omega)) ?_
      show m_Sem X 9 (27, [some (.inr (.inl 2)), some (.inl j), some (.inl a), some (.inl b), some (.inl c)], [.inl (bI (holdsS n tb 3 b c a))], mW (n, T, h, t, x) M, 0, 0) _
      refine m_run 1 (ps' := (39, [some (.inr (.inl 2)), some (.inl j), some (.inl a), some (.inl b), some (.inl c)], [.inl (bI (holdsS n tb 3 b c a))], mW (n, T, h, t, x) M, 0, 0)) rfl ?_
      exact m_ret1 rfl (Or.inr ⟨rfl, bI_01 (holdsS n tb 3 b c a)⟩) rfl (m_Vb (by unfold fitsS; (repeat' split) <;> first | rfl | omega))
  · replace zc1 : j = 0 := Decidable.not_not.mp zc1
    refine m_run 5 (ps' := (9, [some (.inr (.inl 2)), some (.inl j), some (.inl a), some (.inl b), some (.inl c)], [.inl 0, .inl b, .inl a, .inl 5, .inr (.inl 2)], mW (n, T, h, t, x) M, 0, 0)) rfl ?_
    refine m_callSF [.inr (.inl 2), .inl 5, .inl a, .inl b, .inl 0] [] rfl rfl rfl (k_holds (law := 5) (a := a) (b := b) (c := 0) hR (by omega) (by omega) (by omega) (by omega) (by omega) (by omega) (by omega) (by omega)) ?_
    show m_Sem X 9 (12, [some (.inr (.inl 2)), some (.inl j), some (.inl a), some (.inl b), some (.inl c)], [.inl (bI (holdsS n tb 5 a b 0))], mW (n, T, h, t, x) M, 0, 0) _
    exact m_ret1 rfl (Or.inr ⟨rfl, bI_01 (holdsS n tb 5 a b 0)⟩) rfl (m_Vb (by unfold fitsS; (repeat' split) <;> first | rfl | omega))
def isInR (n : Int) (tb : Int → Int → Int) (j lc a b : Int) : Bool := allF (fun c => fitsS n tb j a b c) lc.toNat 0
def isInS (n : Int) (tb : Int → Int → Int) (j a : Int) : Bool := allF (isInR n tb j (if j = 0 then 1 else n) a) n.toNat 0
set_option maxHeartbeats 4000000 in
set_option maxRecDepth 100000 in
theorem l_inI {X : Nat × Nat × (Nat → Int32)} {n : Int} {T : Int → Int} {h : HS} {t : TS} {x : XS} {M : MS} {tb : Int → Int → Int} {j a lc : Int} {Q : Option mPV → mPW → Prop} {o : Bool} (hR : repC n T tb) (hj : 0 ≤ j) (hj2 : j < 3) (hlc : 1 ≤ lc) (hlc2 : lc ≤ n) (ha : 0 ≤ a) (ha2 : a < n) {b : Int} (hb : 0 ≤ b) (hb2 : b < n) (K : o = true → m_Sem X 8 (16, [some (.inr (.inl 2)), some (.inl j), some (.inl a), some (.inl lc), some (.inl (b + 1)), none], [], mW (n, T, h, t, x) M, 0, 0) Q) (R : o = false → Q (some (.inl 0)) (mW (n, T, h, t, x) M)) : ∀ c : Int, 0 ≤ c → c ≤ lc → ∀ (ho : allF (fun c => fitsS n tb j a b c) (lc - c).toNat c = o), m_Sem X 8 (28, [some (.inr (.inl 2)), some (.inl j), some (.inl a), some (.inl lc), some (.inl b), some (.inl c)], [], mW (n, T, h, t, x) M, 0, 0) (Q) := by
  have hn := hR.1
  have hl := okN_lo hn
  refine m_down 0 lc ?_ ?_
  · intro ho
    rw [all_end] at ho
    show m_Sem X 8 (28, [some (.inr (.inl 2)), some (.inl j), some (.inl a), some (.inl lc), some (.inl b), some (.inl lc)], [], mW (n, T, h, t, x) M, 0, 0) _
    refine m_run 2 (ps' := (31, [some (.inr (.inl 2)), some (.inl j), some (.inl a), some (.inl lc), some (.inl b), some (.inl lc)], [.inl lc, .inl lc], mW (n, T, h, t, x) M, 0, 0)) rfl ?_
    refine m_icmp rfl ⟨by omega, by omega⟩ ⟨by omega, by omega⟩ (fun (zc1 : lc ≤ lc) => ?_) (fun (zc1 : ¬ lc ≤ lc) => absurd zc1 (not_not_intro (by omega)))
    refine m_run 2 (ps' := (16, [some (.inr (.inl 2)), some (.inl j), some (.inl a), some (.inl lc), some (.inl (b + 1)), some (.inl lc)], [], mW (n, T, h, t, x) M, 0, 0)) rfl ?_
    refine m_weak [some (.inr (.inl 2)), some (.inl j), some (.inl a), some (.inl lc), some (.inl (b + 1)), none] ⟨rfl, ⟨rfl, ⟨rfl, ⟨rfl, ⟨rfl, trivial⟩⟩⟩⟩⟩ ?_
    exact K ho.symm
  · intro c hi1 hi2 ih ho
    refine m_run 2 (ps' := (31, [some (.inr (.inl 2)), some (.inl j), some (.inl a), some (.inl lc), some (.inl b), some (.inl c)], [.inl lc, .inl c], mW (n, T, h, t, x) M, 0, 0)) rfl ?_
    refine m_icmp rfl ⟨by omega, by omega⟩ ⟨by omega, by omega⟩ (fun (zc1 : lc ≤ c) => absurd zc1 (by omega)) (fun (zc1 : ¬ lc ≤ c) => ?_)
    refine m_run 5 (ps' := (41, [some (.inr (.inl 2)), some (.inl j), some (.inl a), some (.inl lc), some (.inl b), some (.inl c)], [.inl c, .inl b, .inl a, .inl j, .inr (.inl 2)], mW (n, T, h, t, x) M, 0, 0)) rfl ?_
    refine m_callSF [.inr (.inl 2), .inl j, .inl a, .inl b, .inl c] [] rfl rfl rfl (k_fits (j := j) (a := a) (b := b) (c := c) hR (by omega) (by omega) (by omega) (by omega) (by omega) (by omega) (by omega) (by omega)) ?_
    show m_Sem X 8 (44, [some (.inr (.inl 2)), some (.inl j), some (.inl a), some (.inl lc), some (.inl b), some (.inl c)], [.inl (bI (fitsS n tb j a b c))], mW (n, T, h, t, x) M, 0, 0) _
    refine m_if rfl (bI_R (fitsS n tb j a b c)) (fun (zc2 : ¬ (bI (fitsS n tb j a b c)) = 0) => ?_) (fun (zc2 : ¬ ¬ (bI (fitsS n tb j a b c)) = 0) => ?_)
    · replace zc2 : (fitsS n tb j a b c) = true := bI_n0.mp zc2
      refine m_run 2 (ps' := (28, [some (.inr (.inl 2)), some (.inl j), some (.inl a), some (.inl lc), some (.inl b), some (.inl (c + 1))], [], mW (n, T, h, t, x) M, 0, 0)) rfl ?_
      refine m_weak [some (.inr (.inl 2)), some (.inl j), some (.inl a), some (.inl lc), some (.inl b), some (.inl (c + 1))] ⟨rfl, ⟨rfl, ⟨rfl, ⟨rfl, ⟨rfl, ⟨rfl, trivial⟩⟩⟩⟩⟩⟩ ?_
      rw [all_t hi2 zc2] at ho
      exact ih ho
    · replace zc2 : (fitsS n tb j a b c) = false := bI_e0.mp (Decidable.not_not.mp zc2)
      refine m_run 1 (ps' := (48, [some (.inr (.inl 2)), some (.inl j), some (.inl a), some (.inl lc), some (.inl b), some (.inl c)], [.inl 0], mW (n, T, h, t, x) M, 0, 0)) rfl ?_
      exact m_ret1 rfl (Or.inr ⟨rfl, Or.inl rfl⟩) rfl (R (by rw [← ho]; exact all_f hi2 zc2))
set_option maxHeartbeats 4000000 in
set_option maxRecDepth 100000 in
theorem l_inO {X : Nat × Nat × (Nat → Int32)} {n : Int} {T : Int → Int} {h : HS} {t : TS} {x : XS} {M : MS} {tb : Int → Int → Int} {j a lc : Int} {Q : Option mPV → mPW → Prop} {o : Bool} (hR : repC n T tb) (hj : 0 ≤ j) (hj2 : j < 3) (hlc : 1 ≤ lc) (hlc2 : lc ≤ n) (ha : 0 ≤ a) (ha2 : a < n) (R : Q (some (.inl (bI o))) (mW (n, T, h, t, x) M)) : ∀ b : Int, 0 ≤ b → b ≤ n → ∀ (ho : allF (isInR n tb j lc a) (n - b).toNat b = o), m_Sem X 8 (16, [some (.inr (.inl 2)), some (.inl j), some (.inl a), some (.inl lc), some (.inl b), none], [], mW (n, T, h, t, x) M, 0, 0) (Q) := by
  have hn := hR.1
  have hl := okN_lo hn
  refine m_down 0 n ?_ ?_
  · intro ho
    show m_Sem X 8 (16, [some (.inr (.inl 2)), some (.inl j), some (.inl a), some (.inl lc), some (.inl n), none], [], mW (n, T, h, t, x) M, 0, 0) _
    refine m_run 3 (ps' := (22, [some (.inr (.inl 2)), some (.inl j), some (.inl a), some (.inl lc), some (.inl n), none], [.inl n, .inl n], mW (n, T, h, t, x) M, 0, 0)) rfl ?_
    refine m_icmp rfl ⟨by omega, by omega⟩ ⟨by omega, by omega⟩ (fun (zc1 : n ≤ n) => ?_) (fun (zc1 : ¬ n ≤ n) => absurd zc1 (not_not_intro (by omega)))
    refine m_run 1 (ps' := (62, [some (.inr (.inl 2)), some (.inl j), some (.inl a), some (.inl lc), some (.inl n), none], [.inl 1], mW (n, T, h, t, x) M, 0, 0)) rfl ?_
    exact m_ret1 rfl (Or.inr ⟨rfl, Or.inr rfl⟩) rfl (by rw [all_end] at ho; subst ho; exact R)
  · intro b hi1 hi2 ih ho
    refine m_run 3 (ps' := (22, [some (.inr (.inl 2)), some (.inl j), some (.inl a), some (.inl lc), some (.inl b), none], [.inl n, .inl b], mW (n, T, h, t, x) M, 0, 0)) rfl ?_
    refine m_icmp rfl ⟨by omega, by omega⟩ ⟨by omega, by omega⟩ (fun (zc1 : n ≤ b) => absurd zc1 (by omega)) (fun (zc1 : ¬ n ≤ b) => ?_)
    refine m_run 2 (ps' := (28, [some (.inr (.inl 2)), some (.inl j), some (.inl a), some (.inl lc), some (.inl b), some (.inl 0)], [], mW (n, T, h, t, x) M, 0, 0)) rfl ?_
    refine m_weak [some (.inr (.inl 2)), some (.inl j), some (.inl a), some (.inl lc), some (.inl b), some (.inl 0)] ⟨rfl, ⟨rfl, ⟨rfl, ⟨rfl, ⟨rfl, ⟨rfl, trivial⟩⟩⟩⟩⟩⟩ ?_
    cases hh : isInR n tb j lc a b with
    | true =>
      rw [all_t hi2 hh] at ho
      exact l_inI (o := true) hR hj hj2 hlc hlc2 ha ha2 hi1 hi2 (fun _ => ih ho) (fun h => by cases h) 0 (by omega) (by omega) (by rw [z_sub]; exact hh)
    | false =>
      rw [all_f hi2 hh] at ho
      subst ho
      exact l_inI (o := false) hR hj hj2 hlc hlc2 ha ha2 hi1 hi2 (fun h => by cases h) (fun _ => R) 0 (by omega) (by omega) (by rw [z_sub]; exact hh)
set_option maxHeartbeats 4000000 in
set_option maxRecDepth 100000 in
theorem k_isin {X : Nat × Nat × (Nat → Int32)} {n : Int} {T : Int → Int} {h : HS} {t : TS} {x : XS} {M : MS} {tb : Int → Int → Int} {j a : Int} (hR : repC n T tb) (hj : 0 ≤ j) (hj2 : j < 3) (ha : 0 ≤ a) (ha2 : a < n) : m_Run X 8 [.inr (.inl 2), .inl j, .inl a] (mW (n, T, h, t, x) M) (m_V (bI (isInS n tb j a)) (mW (n, T, h, t, x) M)) := by
  have hn := hR.1
  have hl := okN_lo hn
  show m_Sem X 8 (0, [some (.inr (.inl 2)), some (.inl j), some (.inl a), none, none, none], [], mW (n, T, h, t, x) M, 0, 0) _
  refine m_run 1 (ps' := (1, [some (.inr (.inl 2)), some (.inl j), some (.inl a), none, none, none], [.inl j], mW (n, T, h, t, x) M, 0, 0)) rfl ?_
  refine m_if rfl ⟨by omega, by omega⟩ (fun (zc1 : ¬ j = 0) => ?_) (fun (zc1 : ¬ ¬ j = 0) => ?_)
  · refine m_run 5 (ps' := (16, [some (.inr (.inl 2)), some (.inl j), some (.inl a), some (.inl n), some (.inl 0), none], [], mW (n, T, h, t, x) M, 0, 0)) rfl ?_
    refine m_weak [some (.inr (.inl 2)), some (.inl j), some (.inl a), some (.inl n), some (.inl 0), none] ⟨rfl, ⟨rfl, ⟨rfl, ⟨rfl, ⟨rfl, trivial⟩⟩⟩⟩⟩ ?_
    exact l_inO (lc := n) (o := isInS n tb j a) hR hj hj2 (by omega) (by omega) ha ha2 ⟨rfl, rfl⟩ 0 (by omega) (by omega) (by rw [z_sub]; unfold isInS; rw [if_neg (by omega)])
  · replace zc1 : j = 0 := Decidable.not_not.mp zc1
    refine m_run 5 (ps' := (16, [some (.inr (.inl 2)), some (.inl j), some (.inl a), some (.inl 1), some (.inl 0), none], [], mW (n, T, h, t, x) M, 0, 0)) rfl ?_
    refine m_weak [some (.inr (.inl 2)), some (.inl j), some (.inl a), some (.inl 1), some (.inl 0), none] ⟨rfl, ⟨rfl, ⟨rfl, ⟨rfl, ⟨rfl, trivial⟩⟩⟩⟩⟩ ?_
    exact l_inO (lc := 1) (o := isInS n tb j a) hR hj hj2 (by omega) (by omega) ha ha2 ⟨rfl, rfl⟩ 0 (by omega) (by omega) (by rw [z_sub]; unfold isInS; rw [if_pos (by omega)])
def paR (n : Int) (tb : Int → Int → Int) (r : Bool) (a : Int) : Int := sumF (fun b => n - onceS n tb r a b) a.toNat 0
def paS (n : Int) (tb : Int → Int → Int) (r : Bool) : Int := sumF (paR n tb r) n.toNat 0 * n
set_option maxHeartbeats 4000000 in
set_option maxRecDepth 100000 in
theorem l_paI {X : Nat × Nat × (Nat → Int32)} {n : Int} {T : Int → Int} {h : HS} {t : TS} {x : XS} {M : MS} {tb : Int → Int → Int} {a : Int} {r : Bool} {Q : Option mPV → mPW → Prop} {v : Int} (hR : repC n T tb) (ha : 0 ≤ a) (ha2 : a < n) (K : m_Sem X 10 (4, [some (.inr (.inl 2)), some (.inl (bI r)), some (.inl v), some (.inl (a + 1)), none], [], mW (n, T, h, t, x) M, 0, 0) Q) : ∀ b : Int, 0 ≤ b → b ≤ a → ∀ (u : Int) (hu : u + sumF (fun b => n - onceS n tb r a b) (a - b).toNat b = v), m_Sem X 10 (15, [some (.inr (.inl 2)), some (.inl (bI r)), some (.inl u), some (.inl a), some (.inl b)], [], mW (n, T, h, t, x) M, 0, 0) (Q) := by
  have hn := hR.1
  have hl := okN_lo hn
  refine m_down 0 a ?_ ?_
  · intro u hu
    rw [sum_end] at hu
    have hu : u = v := by omega
    subst hu
    show m_Sem X 10 (15, [some (.inr (.inl 2)), some (.inl (bI r)), some (.inl u), some (.inl a), some (.inl a)], [], mW (n, T, h, t, x) M, 0, 0) _
    refine m_run 2 (ps' := (18, [some (.inr (.inl 2)), some (.inl (bI r)), some (.inl u), some (.inl a), some (.inl a)], [.inl a, .inl a], mW (n, T, h, t, x) M, 0, 0)) rfl ?_
    refine m_icmp rfl ⟨by omega, by omega⟩ ⟨by omega, by omega⟩ (fun (zc1 : a ≤ a) => ?_) (fun (zc1 : ¬ a ≤ a) => absurd zc1 (not_not_intro (by omega)))
    refine m_run 2 (ps' := (4, [some (.inr (.inl 2)), some (.inl (bI r)), some (.inl u), some (.inl (a + 1)), some (.inl a)], [], mW (n, T, h, t, x) M, 0, 0)) rfl ?_
    refine m_weak [some (.inr (.inl 2)), some (.inl (bI r)), some (.inl u), some (.inl (a + 1)), none] ⟨rfl, ⟨rfl, ⟨rfl, ⟨rfl, trivial⟩⟩⟩⟩ ?_
    exact K
  · intro b hi1 hi2 ih u hu
    rw [sum_step hi2] at hu
    refine m_run 2 (ps' := (18, [some (.inr (.inl 2)), some (.inl (bI r)), some (.inl u), some (.inl a), some (.inl b)], [.inl a, .inl b], mW (n, T, h, t, x) M, 0, 0)) rfl ?_
    refine m_icmp rfl ⟨by omega, by omega⟩ ⟨by omega, by omega⟩ (fun (zc1 : a ≤ b) => absurd zc1 (by omega)) (fun (zc1 : ¬ a ≤ b) => ?_)
    refine m_run 7 (ps' := (31, [some (.inr (.inl 2)), some (.inl (bI r)), some (.inl u), some (.inl a), some (.inl b)], [.inl (bI r), .inl b, .inl a, .inr (.inl 2), .inl n, .inl u], mW (n, T, h, t, x) M, 0, 0)) rfl ?_
    refine m_callSF [.inr (.inl 2), .inl a, .inl b, .inl (bI r)] [.inl n, .inl u] rfl rfl rfl (k_once (a := a) (b := b) (r := r) hR (by omega) (by omega) (by omega) (by omega)) ?_
    have zt1 := onceS_in n tb r a b
    show m_Sem X 10 (34, [some (.inr (.inl 2)), some (.inl (bI r)), some (.inl u), some (.inl a), some (.inl b)], [.inl (onceS n tb r a b), .inl n, .inl u], mW (n, T, h, t, x) M, 0, 0) _
    refine m_run 5 (ps' := (15, [some (.inr (.inl 2)), some (.inl (bI r)), some (.inl (u + (n - (onceS n tb r a b)))), some (.inl a), some (.inl (b + 1))], [], mW (n, T, h, t, x) M, 0, 0)) rfl ?_
    refine m_weak [some (.inr (.inl 2)), some (.inl (bI r)), some (.inl (u + (n - (onceS n tb r a b)))), some (.inl a), some (.inl (b + 1))] ⟨rfl, ⟨rfl, ⟨rfl, ⟨rfl, ⟨rfl, trivial⟩⟩⟩⟩⟩ ?_
    exact ih _ (by rw [← hu]; omega)
set_option maxHeartbeats 4000000 in
set_option maxRecDepth 100000 in
theorem l_paO {X : Nat × Nat × (Nat → Int32)} {n : Int} {T : Int → Int} {h : HS} {t : TS} {x : XS} {M : MS} {tb : Int → Int → Int} {r : Bool} {Q : Option mPV → mPW → Prop} {v : Int} (hR : repC n T tb) (R : Q (some (.inl (v * n))) (mW (n, T, h, t, x) M)) : ∀ a : Int, 1 ≤ a → a ≤ n → ∀ (u : Int) (hu : u + sumF (paR n tb r) (n - a).toNat a = v), m_Sem X 10 (4, [some (.inr (.inl 2)), some (.inl (bI r)), some (.inl u), some (.inl a), none], [], mW (n, T, h, t, x) M, 0, 0) (Q) := by
  have hn := hR.1
  have hl := okN_lo hn
  refine m_down 1 n ?_ ?_
  · intro u hu
    rw [sum_end] at hu
    have hu : u = v := by omega
    subst hu
    show m_Sem X 10 (4, [some (.inr (.inl 2)), some (.inl (bI r)), some (.inl u), some (.inl n), none], [], mW (n, T, h, t, x) M, 0, 0) _
    refine m_run 3 (ps' := (9, [some (.inr (.inl 2)), some (.inl (bI r)), some (.inl u), some (.inl n), none], [.inl n, .inl n], mW (n, T, h, t, x) M, 0, 0)) rfl ?_
    refine m_icmp rfl ⟨by omega, by omega⟩ ⟨by omega, by omega⟩ (fun (zc1 : n ≤ n) => ?_) (fun (zc1 : ¬ n ≤ n) => absurd zc1 (not_not_intro (by omega)))
    refine m_run 4 (ps' := (55, [some (.inr (.inl 2)), some (.inl (bI r)), some (.inl u), some (.inl n), none], [.inl (u * n)], mW (n, T, h, t, x) M, 0, 0)) rfl ?_
    exact m_ret1 rfl (Or.inl rfl) rfl R
  · intro a hi1 hi2 ih u hu
    rw [sum_step hi2] at hu
    refine m_run 3 (ps' := (9, [some (.inr (.inl 2)), some (.inl (bI r)), some (.inl u), some (.inl a), none], [.inl n, .inl a], mW (n, T, h, t, x) M, 0, 0)) rfl ?_
    refine m_icmp rfl ⟨by omega, by omega⟩ ⟨by omega, by omega⟩ (fun (zc1 : n ≤ a) => absurd zc1 (by omega)) (fun (zc1 : ¬ n ≤ a) => ?_)
    refine m_run 2 (ps' := (15, [some (.inr (.inl 2)), some (.inl (bI r)), some (.inl u), some (.inl a), some (.inl 0)], [], mW (n, T, h, t, x) M, 0, 0)) rfl ?_
    refine m_weak [some (.inr (.inl 2)), some (.inl (bI r)), some (.inl u), some (.inl a), some (.inl 0)] ⟨rfl, ⟨rfl, ⟨rfl, ⟨rfl, ⟨rfl, trivial⟩⟩⟩⟩⟩ ?_
    exact l_paI (v := u + paR n tb r a) hR (by omega) hi2 (ih _ (by rw [← hu]; omega)) 0 (by omega) (by omega) u (by rw [Int.sub_zero]; rfl)
set_option maxHeartbeats 4000000 in
set_option maxRecDepth 100000 in
theorem k_pa {X : Nat × Nat × (Nat → Int32)} {n : Int} {T : Int → Int} {h : HS} {t : TS} {x : XS} {M : MS} {tb : Int → Int → Int} {r : Bool} (hR : repC n T tb) : m_Run X 10 [.inr (.inl 2), .inl (bI r)] (mW (n, T, h, t, x) M) (m_V (paS n tb r) (mW (n, T, h, t, x) M)) := by
  have hn := hR.1
  have hl := okN_lo hn
  show m_Sem X 10 (0, [some (.inr (.inl 2)), some (.inl (bI r)), none, none, none], [], mW (n, T, h, t, x) M, 0, 0) _
  refine m_run 4 (ps' := (4, [some (.inr (.inl 2)), some (.inl (bI r)), some (.inl 0), some (.inl 1), none], [], mW (n, T, h, t, x) M, 0, 0)) rfl ?_
  refine m_weak [some (.inr (.inl 2)), some (.inl (bI r)), some (.inl 0), some (.inl 1), none] ⟨rfl, ⟨rfl, ⟨rfl, ⟨rfl, trivial⟩⟩⟩⟩ ?_
  have h0 : sumF (paR n tb r) n.toNat 0 = 0 + sumF (paR n tb r) (n - 1).toNat 1 := by
    rw [← Int.sub_zero n, sum_step (by omega), Int.sub_zero, Int.zero_add]
    show (0 : Int) + _ = _
    rw [Int.zero_add]
  unfold paS
  exact l_paO hR ⟨rfl, rfl⟩ 1 (by omega) (by omega) 0 h0.symm
end
section
def NP (n : Int) : Int := n * n + n + 1
def tbR (n : Int) (tb : Int → Int → Int) : Prop := ∀ a b, 0 ≤ a → a < n → 0 ≤ b → b < n → 0 ≤ tb a b ∧ tb a b < n
theorem repC.tb {n : Int} {T : Int → Int} {tb : Int → Int → Int} (h : repC n T tb) : tbR n tb := fun a b h1 h2 h3 h4 => (h.2 a b h1 h2 h3 h4).2
theorem sq_b {n : Int} (hn : okN n) : 4 ≤ n * n ∧ n * n ≤ 81 := by
  unfold okN at hn
  rcases hn with rfl | rfl | rfl | rfl | rfl | rfl <;> decide
theorem div_in {n p : Int} (hn : okN n) (h1 : 0 ≤ p) (h2 : p < n * n) : 0 ≤ p / n ∧ p / n < n := by
  have hl := okN_lo hn
  exact ⟨Int.ediv_nonneg h1 (by omega), Int.ediv_lt_of_lt_mul (by omega) h2⟩
theorem mod_in {n p : Int} (hn : okN n) : 0 ≤ p % n ∧ p % n < n := by
  have hl := okN_lo hn
  exact ⟨Int.emod_nonneg p (by omega), Int.emod_lt_of_pos p (by omega)⟩
theorem dmp {n p : Int} (hn : okN n) : ¬ (0 ≤ p ∧ p < n * n) ∨ (0 ≤ p / n ∧ p / n < n) := by
  by_cases h : 0 ≤ p ∧ p < n * n
  · exact Or.inr (div_in hn h.1 h.2)
  · exact Or.inl h
theorem div_np {n p : Int} (hn : okN n) : ¬ (0 ≤ p ∧ p < n * n + n + 1) ∨ (0 ≤ p / n ∧ p / n ≤ n + 1) := by
  have hl := okN_lo hn
  by_cases h : 0 ≤ p ∧ p < n * n + n + 1
  · refine Or.inr ⟨Int.ediv_nonneg h.1 (by omega), ?_⟩
    have h2 : p / n < n + 2 := Int.ediv_lt_of_lt_mul (by omega) (by rw [Int.add_mul]; omega)
    omega
  · exact Or.inl h
def plS (n : Int) (tb : Int → Int → Int) : Bool := decide (paS n tb true = 0) && decide (paS n tb false = 0)
theorem paS_R {n : Int} {tb : Int → Int → Int} {r : Bool} (hn : okN n) : m_R (paS n tb r) := by
  have hl := okN_lo hn
  have h1 : ∀ a, 0 ≤ a → a < n → -81 ≤ paR n tb r a ∧ paR n tb r a ≤ 81 := by
    intro a h1 h2
    have h3 : ∀ (k : Nat) (i : Int), -(9 * k : Int) ≤ sumF (fun b => n - onceS n tb r a b) k i ∧ sumF (fun b => n - onceS n tb r a b) k i ≤ 9 * k := by
      intro k
      induction k with
      | zero => intro i; simp [sumF]
      | succ k ih =>
        intro i
        unfold sumF
        have h4 := ih (i + 1)
        have h5 := onceS_in n tb r a i
        omega
    have h4 := h3 a.toNat 0
    unfold paR
    omega
  have h2 : ∀ (k : Nat) (i : Int), 0 ≤ i → i + k ≤ n → -(81 * k : Int) ≤ sumF (paR n tb r) k i ∧ sumF (paR n tb r) k i ≤ 81 * k := by
    intro k
    induction k with
    | zero => intro i _ _; simp [sumF]
    | succ k ih =>
      intro i h3 h4
      unfold sumF
      have h5 := ih (i + 1) (by omega) (by omega)
      have h6 := h1 i h3 (by omega)
      omega
  have h3 := h2 n.toNat 0 (by omega) (by omega)
  unfold paS
  generalize sumF (paR n tb r) n.toNat 0 = u at h3
  have h4 : -729 ≤ u ∧ u ≤ 729 := by omega
  unfold okN at hn
  constructor <;> (rcases hn with rfl | rfl | rfl | rfl | rfl | rfl <;> omega)
set_option maxHeartbeats 4000000 in
set_option maxRecDepth 100000 in
theorem k_pts {X : Nat × Nat × (Nat → Int32)} {n : Int} {T : Int → Int} {h : HS} {t : TS} {x : XS} {M : MS} {tb : Int → Int → Int} (hR : repC n T tb) : m_Run X 23 [.inr (.inl 1)] (mW (n, T, h, t, x) M) (m_V (NP n) (mW (n, T, h, t, x) M)) := by
  have hn := hR.1
  have hl := okN_lo hn
  have hq := sq_b hn
  show m_Sem X 23 (0, [some (.inr (.inl 1))], [], mW (n, T, h, t, x) M, 0, 0) _
  refine m_run 13 (ps' := (25, [some (.inr (.inl 1))], [.inl (((n * n) + n) + 1)], mW (n, T, h, t, x) M, 0, 0)) rfl ?_
  exact m_ret1 rfl (Or.inl rfl) rfl (m_Vi rfl)
set_option maxHeartbeats 4000000 in
set_option maxRecDepth 100000 in
theorem k_phas {X : Nat × Nat × (Nat → Int32)} {n : Int} {T : Int → Int} {h : HS} {t : TS} {x : XS} {M : MS} {tb : Int → Int → Int} (hR : repC n T tb) {e : Int} (he : m_R e) : m_Run X 24 [.inr (.inl 1), .inl e] (mW (n, T, h, t, x) M) (m_V (bI (inN (NP n) e)) (mW (n, T, h, t, x) M)) := by
  have hn := hR.1
  have hl := okN_lo hn
  have hq := sq_b hn
  show m_Sem X 24 (0, [some (.inr (.inl 1)), some (.inl e)], [], mW (n, T, h, t, x) M, 0, 0) _
  refine m_run 1 (ps' := (1, [some (.inr (.inl 1)), some (.inl e)], [.inl e], mW (n, T, h, t, x) M, 0, 0)) rfl ?_
  refine m_if rfl he (fun (zc1 : e < 0) => ?_) (fun (zc1 : ¬ e < 0) => ?_)
  · refine m_run 1 (ps' := (38, [some (.inr (.inl 1)), some (.inl e)], [.inl 0], mW (n, T, h, t, x) M, 0, 0)) rfl ?_
    exact m_ret1 rfl (Or.inr ⟨rfl, Or.inl rfl⟩) rfl (m_Vb (b0 (inN_f (by unfold NP; omega))))
  · refine m_run 14 (ps' := (30, [some (.inr (.inl 1)), some (.inl e)], [.inl (((n * n) + n) + 1), .inl e], mW (n, T, h, t, x) M, 0, 0)) rfl ?_
    refine m_icmp rfl he ⟨by omega, by omega⟩ (fun (zc2 : (((n * n) + n) + 1) ≤ e) => ?_) (fun (zc2 : ¬ (((n * n) + n) + 1) ≤ e) => ?_)
    · refine m_run 1 (ps' := (38, [some (.inr (.inl 1)), some (.inl e)], [.inl 0], mW (n, T, h, t, x) M, 0, 0)) rfl ?_
      exact m_ret1 rfl (Or.inr ⟨rfl, Or.inl rfl⟩) rfl (m_Vb (b0 (inN_f (by unfold NP; omega))))
    · refine m_run 2 (ps' := (38, [some (.inr (.inl 1)), some (.inl e)], [.inl 1], mW (n, T, h, t, x) M, 0, 0)) rfl ?_
      exact m_ret1 rfl (Or.inr ⟨rfl, Or.inr rfl⟩) rfl (m_Vb (b1 (inN_t (by omega) (by unfold NP; omega))))
set_option maxHeartbeats 4000000 in
set_option maxRecDepth 100000 in
theorem k_pl {X : Nat × Nat × (Nat → Int32)} {n : Int} {T : Int → Int} {h : HS} {t : TS} {x : XS} {M : MS} {tb : Int → Int → Int} (hR : repC n T tb) : m_Run X 25 [.inr (.inl 1)] (mW (n, T, h, t, x) M) (m_V (bI (plS n tb)) (mW (n, T, h, t, x) M)) := by
  have hn := hR.1
  have hl := okN_lo hn
  have hq := sq_b hn
  show m_Sem X 25 (0, [some (.inr (.inl 1))], [], mW (n, T, h, t, x) M, 0, 0) _
  refine m_run 3 (ps' := (5, [some (.inr (.inl 1))], [.inl 1, .inr (.inl 2)], mW (n, T, h, t, x) M, 0, 0)) rfl ?_
  refine m_callSF [.inr (.inl 2), .inl 1] [] rfl rfl rfl (k_pa (r := true) hR) ?_
  show m_Sem X 25 (8, [some (.inr (.inl 1))], [.inl (paS n tb true)], mW (n, T, h, t, x) M, 0, 0) _
  refine m_if rfl (paS_R hn) (fun (zc1 : ¬ (paS n tb true) = 0) => ?_) (fun (zc1 : ¬ ¬ (paS n tb true) = 0) => ?_)
  · refine m_run 1 (ps' := (27, [some (.inr (.inl 1))], [.inl 0], mW (n, T, h, t, x) M, 0, 0)) rfl ?_
    exact m_ret1 rfl (Or.inr ⟨rfl, Or.inl rfl⟩) rfl (m_Vb (b0 (by unfold plS; simp [*])))
  · replace zc1 : (paS n tb true) = 0 := Decidable.not_not.mp zc1
    refine m_run 3 (ps' := (16, [some (.inr (.inl 1))], [.inl 0, .inr (.inl 2)], mW (n, T, h, t, x) M, 0, 0)) rfl ?_
    refine m_callSF [.inr (.inl 2), .inl 0] [] rfl rfl rfl (k_pa (r := false) hR) ?_
    show m_Sem X 25 (19, [some (.inr (.inl 1))], [.inl (paS n tb false)], mW (n, T, h, t, x) M, 0, 0) _
    refine m_if rfl (paS_R hn) (fun (zc2 : ¬ (paS n tb false) = 0) => ?_) (fun (zc2 : ¬ ¬ (paS n tb false) = 0) => ?_)
    · refine m_run 1 (ps' := (27, [some (.inr (.inl 1))], [.inl 0], mW (n, T, h, t, x) M, 0, 0)) rfl ?_
      exact m_ret1 rfl (Or.inr ⟨rfl, Or.inl rfl⟩) rfl (m_Vb (b0 (by unfold plS; simp [*])))
    · replace zc2 : (paS n tb false) = 0 := Decidable.not_not.mp zc2
      refine m_run 2 (ps' := (27, [some (.inr (.inl 1))], [.inl 1], mW (n, T, h, t, x) M, 0, 0)) rfl ?_
      exact m_ret1 rfl (Or.inr ⟨rfl, Or.inr rfl⟩) rfl (m_Vb (b1 (by unfold plS; simp [*])))
def onC (n : Int) (tb : Int → Int → Int) (p l : Int) : Bool :=
  if inN (NP n) p = false then false else if inN (NP n) l = false then false
  else if n * n ≤ l then (if p / n = l - n * n then true else decide (p = n * n + n))
  else if p < n * n then decide (p % n = sumS n (tb (p / n) (l / n)) (l % n)) else decide (p = n * n + l / n)
theorem onC_in {n : Int} {tb : Int → Int → Int} {p l : Int} (h : onC n tb p l = true) : (0 ≤ p ∧ p < NP n) ∧ 0 ≤ l ∧ l < NP n := by
  unfold onC at h
  split at h
  · cases h
  · split at h
    · cases h
    · next h1 h2 => exact ⟨inN_i.mp (by simpa using h1), inN_i.mp (by simpa using h2)⟩
set_option maxHeartbeats 4000000 in
set_option maxRecDepth 100000 in
theorem k_on {X : Nat × Nat × (Nat → Int32)} {n : Int} {T : Int → Int} {h : HS} {t : TS} {x : XS} {M : MS} {tb : Int → Int → Int} (hR : repC n T tb) {p l : Int} (hp : m_R p) (hl2 : m_R l) : m_Run X 26 [.inr (.inl 1), .inl p, .inl l] (mW (n, T, h, t, x) M) (m_V (bI (onC n tb p l)) (mW (n, T, h, t, x) M)) := by
  have hn := hR.1
  have hl := okN_lo hn
  have hq := sq_b hn
  have d1 := dmp (p := p) hn
  have d2 := dmp (p := l) hn
  have d3 := div_np (p := p) hn
  have d4 := mod_in (p := p) hn
  have d5 := mod_in (p := l) hn
  show m_Sem X 26 (0, [some (.inr (.inl 1)), some (.inl p), some (.inl l), none, none, none], [], mW (n, T, h, t, x) M, 0, 0) _
  refine m_run 6 (ps' := (10, [some (.inr (.inl 1)), some (.inl p), some (.inl l), some (.inl n), none, none], [.inl 1, .inl n], mW (n, T, h, t, x) M, 0, 0)) rfl ?_
  refine m_icmp rfl ⟨by omega, by omega⟩ ⟨by omega, by omega⟩ (fun (zc1 : n < 1) => absurd zc1 (by omega)) (fun (zc1 : ¬ n < 1) => ?_)
  refine m_run 2 (ps' := (15, [some (.inr (.inl 1)), some (.inl p), some (.inl l), some (.inl n), none, none], [.inl p, .inr (.inl 1)], mW (n, T, h, t, x) M, 0, 0)) rfl ?_
  refine m_callVF [.inl p] [] rfl rfl ⟨_, rfl, rfl⟩ rfl rfl (k_phas (e := p) hR hp) ?_
  show m_Sem X 26 (18, [some (.inr (.inl 1)), some (.inl p), some (.inl l), some (.inl n), none, none], [.inl (bI (inN (NP n) p))], mW (n, T, h, t, x) M, 0, 0) _
  refine m_if rfl (bI_R _) (fun (zc2 : (bI (inN (NP n) p)) = 0) => ?_) (fun (zc2 : ¬ (bI (inN (NP n) p)) = 0) => ?_)
  · replace zc2 : (inN (NP n) p) = false := bI_e0.mp zc2
    refine m_run 1 (ps' := (30, [some (.inr (.inl 1)), some (.inl p), some (.inl l), some (.inl n), none, none], [.inl 0], mW (n, T, h, t, x) M, 0, 0)) rfl ?_
    exact m_ret1 rfl (Or.inr ⟨rfl, Or.inl rfl⟩) rfl (m_Vb (b0 (by unfold onC; (repeat' split) <;> first | rfl | exact decide_eq_true (by first | assumption | omega) | exact decide_eq_false (by first | assumption | omega) | (exfalso; omega) | simp_all)))
  · replace zc2 : (inN (NP n) p) = true := bI_n0.mp zc2
    have zi1 := inN_i.mp zc2
    unfold NP at zi1
    refine m_run 2 (ps' := (23, [some (.inr (.inl 1)), some (.inl p), some (.inl l), some (.inl n), none, none], [.inl l, .inr (.inl 1)], mW (n, T, h, t, x) M, 0, 0)) rfl ?_
    refine m_callVF [.inl l] [] rfl rfl ⟨_, rfl, rfl⟩ rfl rfl (k_phas (e := l) hR hl2) ?_
    show m_Sem X 26 (26, [some (.inr (.inl 1)), some (.inl p), some (.inl l), some (.inl n), none, none], [.inl (bI (inN (NP n) l))], mW (n, T, h, t, x) M, 0, 0) _
    refine m_if rfl (bI_R _) (fun (zc3 : ¬ (bI (inN (NP n) l)) = 0) => ?_) (fun (zc3 : ¬ ¬ (bI (inN (NP n) l)) = 0) => ?_)
    · replace zc3 : (inN (NP n) l) = true := bI_n0.mp zc3
      have zi2 := inN_i.mp zc3
      unfold NP at zi2
      refine m_run 6 (ps' := (39, [some (.inr (.inl 1)), some (.inl p), some (.inl l), some (.inl n), some (.inl (n * n)), none], [.inl (n * n), .inl l], mW (n, T, h, t, x) M, 0, 0)) rfl ?_
      refine m_icmp rfl ⟨by omega, by omega⟩ ⟨by omega, by omega⟩ (fun (zc4 : l < (n * n)) => ?_) (fun (zc4 : ¬ l < (n * n)) => ?_)
      · refine m_run 2 (ps' := (68, [some (.inr (.inl 1)), some (.inl p), some (.inl l), some (.inl n), some (.inl (n * n)), none], [.inl n, .inl l], mW (n, T, h, t, x) M, 0, 0)) rfl ?_
        refine m_div rfl (by omega) (by omega) (by omega) (by omega) ?_
        refine m_run 3 (ps' := (74, [some (.inr (.inl 1)), some (.inl p), some (.inl l), some (.inl n), some (.inl (n * n)), some (.inl (l / n))], [.inl (n * n), .inl p], mW (n, T, h, t, x) M, 0, 0)) rfl ?_
        refine m_icmp rfl ⟨by omega, by omega⟩ ⟨by omega, by omega⟩ (fun (zc5 : (n * n) ≤ p) => ?_) (fun (zc5 : ¬ (n * n) ≤ p) => ?_)
        · refine m_run 4 (ps' := (119, [some (.inr (.inl 1)), some (.inl p), some (.inl l), some (.inl n), some (.inl (n * n)), some (.inl (l / n))], [.inl ((n * n) + (l / n)), .inl p], mW (n, T, h, t, x) M, 0, 0)) rfl ?_
          refine m_icmp rfl ⟨by omega, by omega⟩ ⟨by omega, by omega⟩ (fun (zc6 : ¬ p = ((n * n) + (l / n))) => ?_) (fun (zc6 : ¬ ¬ p = ((n * n) + (l / n))) => ?_)
          · refine m_run 1 (ps' := (127, [some (.inr (.inl 1)), some (.inl p), some (.inl l), some (.inl n), some (.inl (n * n)), some (.inl (l / n))], [.inl 0], mW (n, T, h, t, x) M, 0, 0)) rfl ?_
            exact m_ret1 rfl (Or.inr ⟨rfl, Or.inl rfl⟩) rfl (m_Vb (b0 (by unfold onC; (repeat' split) <;> first | rfl | exact decide_eq_true (by first | assumption | omega) | exact decide_eq_false (by first | assumption | omega) | (exfalso; omega) | simp_all)))
          · replace zc6 : p = ((n * n) + (l / n)) := Decidable.not_not.mp zc6
            refine m_run 2 (ps' := (127, [some (.inr (.inl 1)), some (.inl p), some (.inl l), some (.inl n), some (.inl (n * n)), some (.inl (l / n))], [.inl 1], mW (n, T, h, t, x) M, 0, 0)) rfl ?_
            exact m_ret1 rfl (Or.inr ⟨rfl, Or.inr rfl⟩) rfl (m_Vb (b1 (by unfold onC; (repeat' split) <;> first | rfl | exact decide_eq_true (by first | assumption | omega) | exact decide_eq_false (by first | assumption | omega) | (exfalso; omega) | simp_all)))
        · refine m_run 2 (ps' := (79, [some (.inr (.inl 1)), some (.inl p), some (.inl l), some (.inl n), some (.inl (n * n)), some (.inl (l / n))], [.inl n, .inl p], mW (n, T, h, t, x) M, 0, 0)) rfl ?_
          refine m_rem rfl (by omega) (by omega) (by omega) (by omega) ?_
          refine m_run 6 (ps' := (90, [some (.inr (.inl 1)), some (.inl p), some (.inl l), some (.inl n), some (.inl (n * n)), some (.inl (l / n))], [.inl n, .inl p, .inr (.inl 2), .inr (.inl 2), .inl (p % n)], mW (n, T, h, t, x) M, 0, 0)) rfl ?_
          refine m_div rfl (by omega) (by omega) (by omega) (by omega) ?_
          refine m_run 1 (ps' := (93, [some (.inr (.inl 1)), some (.inl p), some (.inl l), some (.inl n), some (.inl (n * n)), some (.inl (l / n))], [.inl (l / n), .inl (p / n), .inr (.inl 2), .inr (.inl 2), .inl (p % n)], mW (n, T, h, t, x) M, 0, 0)) rfl ?_
          refine m_callVF [.inl (p / n), .inl (l / n)] [.inr (.inl 2), .inl (p % n)] rfl rfl ⟨_, rfl, rfl⟩ rfl rfl (k_times (a := (p / n)) (b := (l / n)) hR (by omega) (by omega) (by omega) (by omega)) ?_
          have zt1 := (hR.2 (p / n) (l / n) (by omega) (by omega) (by omega) (by omega)).2
          show m_Sem X 26 (96, [some (.inr (.inl 1)), some (.inl p), some (.inl l), some (.inl n), some (.inl (n * n)), some (.inl (l / n))], [.inl (tb (p / n) (l / n)), .inr (.inl 2), .inl (p % n)], mW (n, T, h, t, x) M, 0, 0) _
          refine m_run 2 (ps' := (98, [some (.inr (.inl 1)), some (.inl p), some (.inl l), some (.inl n), some (.inl (n * n)), some (.inl (l / n))], [.inl n, .inl l, .inl (tb (p / n) (l / n)), .inr (.inl 2), .inl (p % n)], mW (n, T, h, t, x) M, 0, 0)) rfl ?_
          refine m_rem rfl (by omega) (by omega) (by omega) (by omega) ?_
          refine m_callVF [.inl (tb (p / n) (l / n)), .inl (l % n)] [.inl (p % n)] rfl rfl ⟨_, rfl, rfl⟩ rfl rfl (k_sum (a := (tb (p / n) (l / n))) (b := (l % n)) hn (by omega) (by omega) (by omega) (by omega)) ?_
          have zt2 := sumS_in (n := n) (a := (tb (p / n) (l / n))) (b := (l % n)) hn (by omega) (by omega) (by omega) (by omega)
          show m_Sem X 26 (102, [some (.inr (.inl 1)), some (.inl p), some (.inl l), some (.inl n), some (.inl (n * n)), some (.inl (l / n))], [.inl (sumS n (tb (p / n) (l / n)) (l % n)), .inl (p % n)], mW (n, T, h, t, x) M, 0, 0) _
          refine m_icmp rfl ⟨by omega, by omega⟩ ⟨by omega, by omega⟩ (fun (zc6 : ¬ (p % n) = (sumS n (tb (p / n) (l / n)) (l % n))) => ?_) (fun (zc6 : ¬ ¬ (p % n) = (sumS n (tb (p / n) (l / n)) (l % n))) => ?_)
          · refine m_run 2 (ps' := (127, [some (.inr (.inl 1)), some (.inl p), some (.inl l), some (.inl n), some (.inl (n * n)), some (.inl (l / n))], [.inl 0], mW (n, T, h, t, x) M, 0, 0)) rfl ?_
            exact m_ret1 rfl (Or.inr ⟨rfl, Or.inl rfl⟩) rfl (m_Vb (b0 (by unfold onC; (repeat' split) <;> first | rfl | exact decide_eq_true (by first | assumption | omega) | exact decide_eq_false (by first | assumption | omega) | (exfalso; omega) | simp_all)))
          · replace zc6 : (p % n) = (sumS n (tb (p / n) (l / n)) (l % n)) := Decidable.not_not.mp zc6
            refine m_run 2 (ps' := (127, [some (.inr (.inl 1)), some (.inl p), some (.inl l), some (.inl n), some (.inl (n * n)), some (.inl (l / n))], [.inl 1], mW (n, T, h, t, x) M, 0, 0)) rfl ?_
            exact m_ret1 rfl (Or.inr ⟨rfl, Or.inr rfl⟩) rfl (m_Vb (b1 (by unfold onC; (repeat' split) <;> first | rfl | exact decide_eq_true (by first | assumption | omega) | exact decide_eq_false (by first | assumption | omega) | (exfalso; omega) | simp_all)))
      · refine m_run 2 (ps' := (44, [some (.inr (.inl 1)), some (.inl p), some (.inl l), some (.inl n), some (.inl (n * n)), none], [.inl n, .inl p], mW (n, T, h, t, x) M, 0, 0)) rfl ?_
        refine m_div rfl (by omega) (by omega) (by omega) (by omega) ?_
        refine m_run 3 (ps' := (49, [some (.inr (.inl 1)), some (.inl p), some (.inl l), some (.inl n), some (.inl (n * n)), none], [.inl (l - (n * n)), .inl (p / n)], mW (n, T, h, t, x) M, 0, 0)) rfl ?_
        refine m_icmp rfl ⟨by omega, by omega⟩ ⟨by omega, by omega⟩ (fun (zc5 : (p / n) = (l - (n * n))) => ?_) (fun (zc5 : ¬ (p / n) = (l - (n * n))) => ?_)
        · refine m_run 2 (ps' := (65, [some (.inr (.inl 1)), some (.inl p), some (.inl l), some (.inl n), some (.inl (n * n)), none], [.inl 1], mW (n, T, h, t, x) M, 0, 0)) rfl ?_
          exact m_ret1 rfl (Or.inr ⟨rfl, Or.inr rfl⟩) rfl (m_Vb (b1 (by unfold onC; (repeat' split) <;> first | rfl | exact decide_eq_true (by first | assumption | omega) | exact decide_eq_false (by first | assumption | omega) | (exfalso; omega) | simp_all)))
        · refine m_run 4 (ps' := (57, [some (.inr (.inl 1)), some (.inl p), some (.inl l), some (.inl n), some (.inl (n * n)), none], [.inl ((n * n) + n), .inl p], mW (n, T, h, t, x) M, 0, 0)) rfl ?_
          refine m_icmp rfl ⟨by omega, by omega⟩ ⟨by omega, by omega⟩ (fun (zc6 : ¬ p = ((n * n) + n)) => ?_) (fun (zc6 : ¬ ¬ p = ((n * n) + n)) => ?_)
          · refine m_run 1 (ps' := (65, [some (.inr (.inl 1)), some (.inl p), some (.inl l), some (.inl n), some (.inl (n * n)), none], [.inl 0], mW (n, T, h, t, x) M, 0, 0)) rfl ?_
            exact m_ret1 rfl (Or.inr ⟨rfl, Or.inl rfl⟩) rfl (m_Vb (b0 (by unfold onC; (repeat' split) <;> first | rfl | exact decide_eq_true (by first | assumption | omega) | exact decide_eq_false (by first | assumption | omega) | (exfalso; omega) | simp_all)))
          · replace zc6 : p = ((n * n) + n) := Decidable.not_not.mp zc6
            refine m_run 2 (ps' := (65, [some (.inr (.inl 1)), some (.inl p), some (.inl l), some (.inl n), some (.inl (n * n)), none], [.inl 1], mW (n, T, h, t, x) M, 0, 0)) rfl ?_
            exact m_ret1 rfl (Or.inr ⟨rfl, Or.inr rfl⟩) rfl (m_Vb (b1 (by unfold onC; (repeat' split) <;> first | rfl | exact decide_eq_true (by first | assumption | omega) | exact decide_eq_false (by first | assumption | omega) | (exfalso; omega) | simp_all)))
    · replace zc3 : (inN (NP n) l) = false := bI_e0.mp (Decidable.not_not.mp zc3)
      refine m_run 1 (ps' := (30, [some (.inr (.inl 1)), some (.inl p), some (.inl l), some (.inl n), none, none], [.inl 0], mW (n, T, h, t, x) M, 0, 0)) rfl ?_
      exact m_ret1 rfl (Or.inr ⟨rfl, Or.inl rfl⟩) rfl (m_Vb (b0 (by unfold onC; (repeat' split) <;> first | rfl | exact decide_eq_true (by first | assumption | omega) | exact decide_eq_false (by first | assumption | omega) | (exfalso; omega) | simp_all)))
def ptC (n : Int) (tb : Int → Int → Int) (l i : Int) : Int :=
  if inN (NP n) l = false then -1 else if i < 0 then -1 else if n < i then -1
  else if n * n ≤ l then (if i < n then n * (l - n * n) + i else n * n + n)
  else if i < n then n * i + sumS n (tb i (l / n)) (l % n) else n * n + l / n
def ltC (n : Int) (tb : Int → Int → Int) (p i : Int) : Int :=
  if inN (NP n) p = false then -1 else if i < 0 then -1 else if n < i then -1
  else if n * n ≤ p then (if i < n then n * (p - n * n) + i else n * n + n)
  else if i < n then n * i + difS n (p % n) (tb (p / n) i) else n * n + p / n
theorem mul_lt_sq {n a b : Int} (hn : okN n) (h1 : 0 ≤ a) (h2 : a < n) (h3 : 0 ≤ b) (h4 : b < n) : 0 ≤ n * a + b ∧ n * a + b < n * n := by
  have hl := okN_lo hn
  have h5 : n * a ≤ n * (n - 1) := Int.mul_le_mul_of_nonneg_left (by omega) (by omega)
  have h6 : n * (n - 1) = n * n - n := by rw [Int.mul_sub, Int.mul_one]
  have h7 : 0 ≤ n * a := Int.mul_nonneg (by omega) h1
  omega
theorem ptC_in {n : Int} {tb : Int → Int → Int} {l i : Int} (hn : okN n) (ht : tbR n tb) : ptC n tb l i = -1 ∨ (0 ≤ ptC n tb l i ∧ ptC n tb l i < NP n) := by
  have hl := okN_lo hn
  have hq := sq_b hn
  have d2 := dmp (p := l) hn
  have d5 := mod_in (p := l) hn
  unfold ptC
  split
  · exact Or.inl rfl
  · next h1 =>
    have h1 := inN_i.mp (by simpa using h1)
    unfold NP at h1 ⊢
    split
    · exact Or.inl rfl
    · split
      · exact Or.inl rfl
      · split
        · split
          · next h2 h3 h4 h5 =>
            by_cases hc : l - n * n < n
            · have h6 := mul_lt_sq hn (a := l - n * n) (b := i) (by omega) hc (by omega) h5
              exact Or.inr (by omega)
            · rw [show l - n * n = n by omega]
              exact Or.inr (by omega)
          · exact Or.inr (by omega)
        · split
          · next h2 h3 h4 h5 =>
            have h6 := ht i (l / n) (by omega) (by omega) (by omega) (by omega)
            have h7 := sumS_in hn h6.1 h6.2 d5.1 d5.2
            have h8 := mul_lt_sq hn (a := i) (b := sumS n (tb i (l / n)) (l % n)) (by omega) h5 h7.1 h7.2
            exact Or.inr (by omega)
          · exact Or.inr (by omega)
theorem ltC_in {n : Int} {tb : Int → Int → Int} {p i : Int} (hn : okN n) (ht : tbR n tb) : ltC n tb p i = -1 ∨ (0 ≤ ltC n tb p i ∧ ltC n tb p i < NP n) := by
  have hl := okN_lo hn
  have hq := sq_b hn
  have d2 := dmp (p := p) hn
  have d5 := mod_in (p := p) hn
  unfold ltC
  split
  · exact Or.inl rfl
  · next h1 =>
    have h1 := inN_i.mp (by simpa using h1)
    unfold NP at h1 ⊢
    split
    · exact Or.inl rfl
    · split
      · exact Or.inl rfl
      · split
        · split
          · next h2 h3 h4 h5 =>
            by_cases hc : p - n * n < n
            · have h6 := mul_lt_sq hn (a := p - n * n) (b := i) (by omega) hc (by omega) h5
              exact Or.inr (by omega)
            · rw [show p - n * n = n by omega]
              exact Or.inr (by omega)
          · exact Or.inr (by omega)
        · split
          · next h2 h3 h4 h5 =>
            have h6 := ht (p / n) i (by omega) (by omega) (by omega) (by omega)
            have h7 := difS_in hn d5.1 d5.2 h6.1 h6.2
            have h8 := mul_lt_sq hn (a := i) (b := difS n (p % n) (tb (p / n) i)) (by omega) h5 h7.1 h7.2
            exact Or.inr (by omega)
          · exact Or.inr (by omega)
set_option maxHeartbeats 4000000 in
set_option maxRecDepth 100000 in
theorem k_pt {X : Nat × Nat × (Nat → Int32)} {n : Int} {T : Int → Int} {h : HS} {t : TS} {x : XS} {M : MS} {tb : Int → Int → Int} (hR : repC n T tb) {l i : Int} (hp : m_R l) (hi : m_R i) : m_Run X 27 [.inr (.inl 1), .inl l, .inl i] (mW (n, T, h, t, x) M) (m_V (ptC n tb l i) (mW (n, T, h, t, x) M)) := by
  have hn := hR.1
  have hl := okN_lo hn
  have hq := sq_b hn
  have d2 := dmp (p := l) hn
  have d5 := mod_in (p := l) hn
  show m_Sem X 27 (0, [some (.inr (.inl 1)), some (.inl l), some (.inl i), none, none, none], [], mW (n, T, h, t, x) M, 0, 0) _
  refine m_run 6 (ps' := (10, [some (.inr (.inl 1)), some (.inl l), some (.inl i), some (.inl n), none, none], [.inl 1, .inl n], mW (n, T, h, t, x) M, 0, 0)) rfl ?_
  refine m_icmp rfl ⟨by omega, by omega⟩ ⟨by omega, by omega⟩ (fun (zc1 : n < 1) => absurd zc1 (by omega)) (fun (zc1 : ¬ n < 1) => ?_)
  refine m_run 2 (ps' := (15, [some (.inr (.inl 1)), some (.inl l), some (.inl i), some (.inl n), none, none], [.inl l, .inr (.inl 1)], mW (n, T, h, t, x) M, 0, 0)) rfl ?_
  refine m_callVF [.inl l] [] rfl rfl ⟨_, rfl, rfl⟩ rfl rfl (k_phas (e := l) hR hp) ?_
  show m_Sem X 27 (18, [some (.inr (.inl 1)), some (.inl l), some (.inl i), some (.inl n), none, none], [.inl (bI (inN (NP n) l))], mW (n, T, h, t, x) M, 0, 0) _
  refine m_if rfl (bI_R _) (fun (zc2 : (bI (inN (NP n) l)) = 0) => ?_) (fun (zc2 : ¬ (bI (inN (NP n) l)) = 0) => ?_)
  · replace zc2 : (inN (NP n) l) = false := bI_e0.mp zc2
    refine m_run 1 (ps' := (31, [some (.inr (.inl 1)), some (.inl l), some (.inl i), some (.inl n), none, none], [.inl (-1)], mW (n, T, h, t, x) M, 0, 0)) rfl ?_
    exact m_ret1 rfl (Or.inl rfl) rfl (m_Vi (by unfold ptC; (repeat' split) <;> first | rfl | (exfalso; omega) | omega | simp_all))
  · replace zc2 : (inN (NP n) l) = true := bI_n0.mp zc2
    have zi1 := inN_i.mp zc2
    unfold NP at zi1
    refine m_run 1 (ps' := (22, [some (.inr (.inl 1)), some (.inl l), some (.inl i), some (.inl n), none, none], [.inl i], mW (n, T, h, t, x) M, 0, 0)) rfl ?_
    refine m_if rfl hi (fun (zc3 : i < 0) => ?_) (fun (zc3 : ¬ i < 0) => ?_)
    · refine m_run 1 (ps' := (31, [some (.inr (.inl 1)), some (.inl l), some (.inl i), some (.inl n), none, none], [.inl (-1)], mW (n, T, h, t, x) M, 0, 0)) rfl ?_
      exact m_ret1 rfl (Or.inl rfl) rfl (m_Vi (by unfold ptC; (repeat' split) <;> first | rfl | (exfalso; omega) | omega | simp_all))
    · refine m_run 2 (ps' := (27, [some (.inr (.inl 1)), some (.inl l), some (.inl i), some (.inl n), none, none], [.inl n, .inl i], mW (n, T, h, t, x) M, 0, 0)) rfl ?_
      refine m_icmp rfl hi ⟨by omega, by omega⟩ (fun (zc4 : i ≤ n) => ?_) (fun (zc4 : ¬ i ≤ n) => ?_)
      · refine m_run 6 (ps' := (40, [some (.inr (.inl 1)), some (.inl l), some (.inl i), some (.inl n), some (.inl (n * n)), none], [.inl (n * n), .inl l], mW (n, T, h, t, x) M, 0, 0)) rfl ?_
        refine m_icmp rfl ⟨by omega, by omega⟩ ⟨by omega, by omega⟩ (fun (zc5 : l < (n * n)) => ?_) (fun (zc5 : ¬ l < (n * n)) => ?_)
        · refine m_run 2 (ps' := (66, [some (.inr (.inl 1)), some (.inl l), some (.inl i), some (.inl n), some (.inl (n * n)), none], [.inl n, .inl l], mW (n, T, h, t, x) M, 0, 0)) rfl ?_
          refine m_div rfl (by omega) (by omega) (by omega) (by omega) ?_
          refine m_run 3 (ps' := (71, [some (.inr (.inl 1)), some (.inl l), some (.inl i), some (.inl n), some (.inl (n * n)), some (.inl (l / n))], [.inl n, .inl i], mW (n, T, h, t, x) M, 0, 0)) rfl ?_
          refine m_icmp rfl hi ⟨by omega, by omega⟩ (fun (zc6 : n ≤ i) => ?_) (fun (zc6 : ¬ n ≤ i) => ?_)
          · refine m_run 3 (ps' := (106, [some (.inr (.inl 1)), some (.inl l), some (.inl i), some (.inl n), some (.inl (n * n)), some (.inl (l / n))], [.inl ((n * n) + (l / n))], mW (n, T, h, t, x) M, 0, 0)) rfl ?_
            exact m_ret1 rfl (Or.inl rfl) rfl (m_Vi (by unfold ptC; (repeat' split) <;> first | rfl | (exfalso; omega) | omega | simp_all))
          · refine m_run 9 (ps' := (88, [some (.inr (.inl 1)), some (.inl l), some (.inl i), some (.inl n), some (.inl (n * n)), some (.inl (l / n))], [.inl (l / n), .inl i, .inr (.inl 2), .inr (.inl 2), .inl (n * i)], mW (n, T, h, t, x) M, 0, 0)) rfl ?_
            refine m_callVF [.inl i, .inl (l / n)] [.inr (.inl 2), .inl (n * i)] rfl rfl ⟨_, rfl, rfl⟩ rfl rfl (k_times (a := i) (b := (l / n)) hR (by omega) (by omega) (by omega) (by omega)) ?_
            have zt1 := (hR.2 i (l / n) (by omega) (by omega) (by omega) (by omega)).2
            show m_Sem X 27 (91, [some (.inr (.inl 1)), some (.inl l), some (.inl i), some (.inl n), some (.inl (n * n)), some (.inl (l / n))], [.inl (tb i (l / n)), .inr (.inl 2), .inl (n * i)], mW (n, T, h, t, x) M, 0, 0) _
            refine m_run 2 (ps' := (93, [some (.inr (.inl 1)), some (.inl l), some (.inl i), some (.inl n), some (.inl (n * n)), some (.inl (l / n))], [.inl n, .inl l, .inl (tb i (l / n)), .inr (.inl 2), .inl (n * i)], mW (n, T, h, t, x) M, 0, 0)) rfl ?_
            refine m_rem rfl (by omega) (by omega) (by omega) (by omega) ?_
            refine m_callVF [.inl (tb i (l / n)), .inl (l % n)] [.inl (n * i)] rfl rfl ⟨_, rfl, rfl⟩ rfl rfl (k_sum (a := (tb i (l / n))) (b := (l % n)) hn (by omega) (by omega) (by omega) (by omega)) ?_
            have zt2 := sumS_in (n := n) (a := (tb i (l / n))) (b := (l % n)) hn (by omega) (by omega) (by omega) (by omega)
            show m_Sem X 27 (97, [some (.inr (.inl 1)), some (.inl l), some (.inl i), some (.inl n), some (.inl (n * n)), some (.inl (l / n))], [.inl (sumS n (tb i (l / n)) (l % n)), .inl (n * i)], mW (n, T, h, t, x) M, 0, 0) _
            refine m_run 2 (ps' := (106, [some (.inr (.inl 1)), some (.inl l), some (.inl i), some (.inl n), some (.inl (n * n)), some (.inl (l / n))], [.inl ((n * i) + (sumS n (tb i (l / n)) (l % n)))], mW (n, T, h, t, x) M, 0, 0)) rfl ?_
            exact m_ret1 rfl (Or.inl rfl) rfl (m_Vi (by unfold ptC; (repeat' split) <;> first | rfl | (exfalso; omega) | omega | simp_all))
        · refine m_run 2 (ps' := (45, [some (.inr (.inl 1)), some (.inl l), some (.inl i), some (.inl n), some (.inl (n * n)), none], [.inl n, .inl i], mW (n, T, h, t, x) M, 0, 0)) rfl ?_
          refine m_icmp rfl hi ⟨by omega, by omega⟩ (fun (zc6 : n ≤ i) => ?_) (fun (zc6 : ¬ n ≤ i) => ?_)
          · refine m_run 3 (ps' := (63, [some (.inr (.inl 1)), some (.inl l), some (.inl i), some (.inl n), some (.inl (n * n)), none], [.inl ((n * n) + n)], mW (n, T, h, t, x) M, 0, 0)) rfl ?_
            exact m_ret1 rfl (Or.inl rfl) rfl (m_Vi (by unfold ptC; (repeat' split) <;> first | rfl | (exfalso; omega) | omega | simp_all))
          · refine m_run 8 (ps' := (63, [some (.inr (.inl 1)), some (.inl l), some (.inl i), some (.inl n), some (.inl (n * n)), none], [.inl ((n * (l - (n * n))) + i)], mW (n, T, h, t, x) M, 0, 0)) rfl ?_
            exact m_ret1 rfl (Or.inl rfl) rfl (m_Vi (by unfold ptC; (repeat' split) <;> first | rfl | (exfalso; omega) | omega | simp_all))
      · refine m_run 1 (ps' := (31, [some (.inr (.inl 1)), some (.inl l), some (.inl i), some (.inl n), none, none], [.inl (-1)], mW (n, T, h, t, x) M, 0, 0)) rfl ?_
        exact m_ret1 rfl (Or.inl rfl) rfl (m_Vi (by unfold ptC; (repeat' split) <;> first | rfl | (exfalso; omega) | omega | simp_all))
set_option maxHeartbeats 4000000 in
set_option maxRecDepth 100000 in
theorem k_lt {X : Nat × Nat × (Nat → Int32)} {n : Int} {T : Int → Int} {h : HS} {t : TS} {x : XS} {M : MS} {tb : Int → Int → Int} (hR : repC n T tb) {l i : Int} (hp : m_R l) (hi : m_R i) : m_Run X 28 [.inr (.inl 1), .inl l, .inl i] (mW (n, T, h, t, x) M) (m_V (ltC n tb l i) (mW (n, T, h, t, x) M)) := by
  have hn := hR.1
  have hl := okN_lo hn
  have hq := sq_b hn
  have d2 := dmp (p := l) hn
  have d5 := mod_in (p := l) hn
  show m_Sem X 28 (0, [some (.inr (.inl 1)), some (.inl l), some (.inl i), none, none, none], [], mW (n, T, h, t, x) M, 0, 0) _
  refine m_run 6 (ps' := (10, [some (.inr (.inl 1)), some (.inl l), some (.inl i), some (.inl n), none, none], [.inl 1, .inl n], mW (n, T, h, t, x) M, 0, 0)) rfl ?_
  refine m_icmp rfl ⟨by omega, by omega⟩ ⟨by omega, by omega⟩ (fun (zc1 : n < 1) => absurd zc1 (by omega)) (fun (zc1 : ¬ n < 1) => ?_)
  refine m_run 2 (ps' := (15, [some (.inr (.inl 1)), some (.inl l), some (.inl i), some (.inl n), none, none], [.inl l, .inr (.inl 1)], mW (n, T, h, t, x) M, 0, 0)) rfl ?_
  refine m_callVF [.inl l] [] rfl rfl ⟨_, rfl, rfl⟩ rfl rfl (k_phas (e := l) hR hp) ?_
  show m_Sem X 28 (18, [some (.inr (.inl 1)), some (.inl l), some (.inl i), some (.inl n), none, none], [.inl (bI (inN (NP n) l))], mW (n, T, h, t, x) M, 0, 0) _
  refine m_if rfl (bI_R _) (fun (zc2 : (bI (inN (NP n) l)) = 0) => ?_) (fun (zc2 : ¬ (bI (inN (NP n) l)) = 0) => ?_)
  · replace zc2 : (inN (NP n) l) = false := bI_e0.mp zc2
    refine m_run 1 (ps' := (31, [some (.inr (.inl 1)), some (.inl l), some (.inl i), some (.inl n), none, none], [.inl (-1)], mW (n, T, h, t, x) M, 0, 0)) rfl ?_
    exact m_ret1 rfl (Or.inl rfl) rfl (m_Vi (by unfold ltC; (repeat' split) <;> first | rfl | (exfalso; omega) | omega | simp_all))
  · replace zc2 : (inN (NP n) l) = true := bI_n0.mp zc2
    have zi1 := inN_i.mp zc2
    unfold NP at zi1
    refine m_run 1 (ps' := (22, [some (.inr (.inl 1)), some (.inl l), some (.inl i), some (.inl n), none, none], [.inl i], mW (n, T, h, t, x) M, 0, 0)) rfl ?_
    refine m_if rfl hi (fun (zc3 : i < 0) => ?_) (fun (zc3 : ¬ i < 0) => ?_)
    · refine m_run 1 (ps' := (31, [some (.inr (.inl 1)), some (.inl l), some (.inl i), some (.inl n), none, none], [.inl (-1)], mW (n, T, h, t, x) M, 0, 0)) rfl ?_
      exact m_ret1 rfl (Or.inl rfl) rfl (m_Vi (by unfold ltC; (repeat' split) <;> first | rfl | (exfalso; omega) | omega | simp_all))
    · refine m_run 2 (ps' := (27, [some (.inr (.inl 1)), some (.inl l), some (.inl i), some (.inl n), none, none], [.inl n, .inl i], mW (n, T, h, t, x) M, 0, 0)) rfl ?_
      refine m_icmp rfl hi ⟨by omega, by omega⟩ (fun (zc4 : i ≤ n) => ?_) (fun (zc4 : ¬ i ≤ n) => ?_)
      · refine m_run 6 (ps' := (40, [some (.inr (.inl 1)), some (.inl l), some (.inl i), some (.inl n), some (.inl (n * n)), none], [.inl (n * n), .inl l], mW (n, T, h, t, x) M, 0, 0)) rfl ?_
        refine m_icmp rfl ⟨by omega, by omega⟩ ⟨by omega, by omega⟩ (fun (zc5 : l < (n * n)) => ?_) (fun (zc5 : ¬ l < (n * n)) => ?_)
        · refine m_run 2 (ps' := (66, [some (.inr (.inl 1)), some (.inl l), some (.inl i), some (.inl n), some (.inl (n * n)), none], [.inl n, .inl l], mW (n, T, h, t, x) M, 0, 0)) rfl ?_
          refine m_div rfl (by omega) (by omega) (by omega) (by omega) ?_
          refine m_run 3 (ps' := (71, [some (.inr (.inl 1)), some (.inl l), some (.inl i), some (.inl n), some (.inl (n * n)), some (.inl (l / n))], [.inl n, .inl i], mW (n, T, h, t, x) M, 0, 0)) rfl ?_
          refine m_icmp rfl hi ⟨by omega, by omega⟩ (fun (zc6 : n ≤ i) => ?_) (fun (zc6 : ¬ n ≤ i) => ?_)
          · refine m_run 3 (ps' := (106, [some (.inr (.inl 1)), some (.inl l), some (.inl i), some (.inl n), some (.inl (n * n)), some (.inl (l / n))], [.inl ((n * n) + (l / n))], mW (n, T, h, t, x) M, 0, 0)) rfl ?_
            exact m_ret1 rfl (Or.inl rfl) rfl (m_Vi (by unfold ltC; (repeat' split) <;> first | rfl | (exfalso; omega) | omega | simp_all))
          · refine m_run 7 (ps' := (83, [some (.inr (.inl 1)), some (.inl l), some (.inl i), some (.inl n), some (.inl (n * n)), some (.inl (l / n))], [.inl n, .inl l, .inr (.inl 2), .inl (n * i)], mW (n, T, h, t, x) M, 0, 0)) rfl ?_
            refine m_rem rfl (by omega) (by omega) (by omega) (by omega) ?_
            refine m_run 4 (ps' := (91, [some (.inr (.inl 1)), some (.inl l), some (.inl i), some (.inl n), some (.inl (n * n)), some (.inl (l / n))], [.inl i, .inl (l / n), .inr (.inl 2), .inl (l % n), .inr (.inl 2), .inl (n * i)], mW (n, T, h, t, x) M, 0, 0)) rfl ?_
            refine m_callVF [.inl (l / n), .inl i] [.inl (l % n), .inr (.inl 2), .inl (n * i)] rfl rfl ⟨_, rfl, rfl⟩ rfl rfl (k_times (a := (l / n)) (b := i) hR (by omega) (by omega) (by omega) (by omega)) ?_
            have zt1 := (hR.2 (l / n) i (by omega) (by omega) (by omega) (by omega)).2
            show m_Sem X 28 (94, [some (.inr (.inl 1)), some (.inl l), some (.inl i), some (.inl n), some (.inl (n * n)), some (.inl (l / n))], [.inl (tb (l / n) i), .inl (l % n), .inr (.inl 2), .inl (n * i)], mW (n, T, h, t, x) M, 0, 0) _
            refine m_callVF [.inl (l % n), .inl (tb (l / n) i)] [.inl (n * i)] rfl rfl ⟨_, rfl, rfl⟩ rfl rfl (k_dif (a := (l % n)) (b := (tb (l / n) i)) hn (by omega) (by omega) (by omega) (by omega)) ?_
            have zt2 := difS_in (n := n) (a := (l % n)) (b := (tb (l / n) i)) hn (by omega) (by omega) (by omega) (by omega)
            show m_Sem X 28 (97, [some (.inr (.inl 1)), some (.inl l), some (.inl i), some (.inl n), some (.inl (n * n)), some (.inl (l / n))], [.inl (difS n (l % n) (tb (l / n) i)), .inl (n * i)], mW (n, T, h, t, x) M, 0, 0) _
            refine m_run 2 (ps' := (106, [some (.inr (.inl 1)), some (.inl l), some (.inl i), some (.inl n), some (.inl (n * n)), some (.inl (l / n))], [.inl ((n * i) + (difS n (l % n) (tb (l / n) i)))], mW (n, T, h, t, x) M, 0, 0)) rfl ?_
            exact m_ret1 rfl (Or.inl rfl) rfl (m_Vi (by unfold ltC; (repeat' split) <;> first | rfl | (exfalso; omega) | omega | simp_all))
        · refine m_run 2 (ps' := (45, [some (.inr (.inl 1)), some (.inl l), some (.inl i), some (.inl n), some (.inl (n * n)), none], [.inl n, .inl i], mW (n, T, h, t, x) M, 0, 0)) rfl ?_
          refine m_icmp rfl hi ⟨by omega, by omega⟩ (fun (zc6 : n ≤ i) => ?_) (fun (zc6 : ¬ n ≤ i) => ?_)
          · refine m_run 3 (ps' := (63, [some (.inr (.inl 1)), some (.inl l), some (.inl i), some (.inl n), some (.inl (n * n)), none], [.inl ((n * n) + n)], mW (n, T, h, t, x) M, 0, 0)) rfl ?_
            exact m_ret1 rfl (Or.inl rfl) rfl (m_Vi (by unfold ltC; (repeat' split) <;> first | rfl | (exfalso; omega) | omega | simp_all))
          · refine m_run 8 (ps' := (63, [some (.inr (.inl 1)), some (.inl l), some (.inl i), some (.inl n), some (.inl (n * n)), none], [.inl ((n * (l - (n * n))) + i)], mW (n, T, h, t, x) M, 0, 0)) rfl ?_
            exact m_ret1 rfl (Or.inl rfl) rfl (m_Vi (by unfold ltC; (repeat' split) <;> first | rfl | (exfalso; omega) | omega | simp_all))
      · refine m_run 1 (ps' := (31, [some (.inr (.inl 1)), some (.inl l), some (.inl i), some (.inl n), none, none], [.inl (-1)], mW (n, T, h, t, x) M, 0, 0)) rfl ?_
        exact m_ret1 rfl (Or.inl rfl) rfl (m_Vi (by unfold ltC; (repeat' split) <;> first | rfl | (exfalso; omega) | omega | simp_all))
def lnF (n : Int) (tb : Int → Int → Int) (p q : Int) : Int → Option Int := fun i => if onC n tb q (ltC n tb p i) = true then some (ltC n tb p i) else none
def mtF (n : Int) (tb : Int → Int → Int) (l m : Int) : Int → Option Int := fun i => if onC n tb (ptC n tb l i) m = true then some (ptC n tb l i) else none
def oI (o : Option Int) : Int := o.getD (-1)
def lnC (n : Int) (tb : Int → Int → Int) (p q : Int) : Int := oI (optF (lnF n tb p q) (n + 1).toNat 0)
def mtC (n : Int) (tb : Int → Int → Int) (l m : Int) : Int := oI (optF (mtF n tb l m) (n + 1).toNat 0)
theorem lnC_in {n : Int} {tb : Int → Int → Int} {p q : Int} : lnC n tb p q = -1 ∨ (0 ≤ lnC n tb p q ∧ lnC n tb p q < NP n) := by
  unfold lnC
  cases h : optF (lnF n tb p q) (n + 1).toNat 0 with
  | none => exact Or.inl rfl
  | some v =>
    obtain ⟨i, -, -, h1, -⟩ := opt_some _ _ h
    unfold lnF at h1
    split at h1
    · next h2 =>
      cases h1
      exact Or.inr (onC_in h2).2
    · cases h1
theorem mtC_in {n : Int} {tb : Int → Int → Int} {p q : Int} : mtC n tb p q = -1 ∨ (0 ≤ mtC n tb p q ∧ mtC n tb p q < NP n) := by
  unfold mtC
  cases h : optF (mtF n tb p q) (n + 1).toNat 0 with
  | none => exact Or.inl rfl
  | some v =>
    obtain ⟨i, -, -, h1, -⟩ := opt_some _ _ h
    unfold mtF at h1
    split at h1
    · next h2 =>
      cases h1
      exact Or.inr (onC_in h2).1
    · cases h1
set_option maxHeartbeats 4000000 in
set_option maxRecDepth 100000 in
theorem l_ln {X : Nat × Nat × (Nat → Int32)} {n : Int} {T : Int → Int} {h : HS} {t : TS} {x : XS} {M : MS} {tb : Int → Int → Int} (hR : repC n T tb) {p q : Int} {o : Option Int} (hp : m_R p) (hq2 : m_R q) : ∀ i : Int, 0 ≤ i → i ≤ n + 1 → ∀ (ho : optF (lnF n tb p q) (n + 1 - i).toNat i = o), m_Sem X 29 (2, [some (.inr (.inl 1)), some (.inl p), some (.inl q), some (.inl i), none], [], mW (n, T, h, t, x) M, 0, 0) (m_V (oI o) (mW (n, T, h, t, x) M)) := by
  have hn := hR.1
  have hl := okN_lo hn
  have hq := sq_b hn
  refine m_down 0 (n + 1) ?_ ?_
  · intro ho
    show m_Sem X 29 (2, [some (.inr (.inl 1)), some (.inl p), some (.inl q), some (.inl (n + 1)), none], [], mW (n, T, h, t, x) M, 0, 0) _
    refine m_run 4 (ps' := (10, [some (.inr (.inl 1)), some (.inl p), some (.inl q), some (.inl (n + 1)), none], [.inl n, .inl (n + 1)], mW (n, T, h, t, x) M, 0, 0)) rfl ?_
    refine m_icmp rfl ⟨by omega, by omega⟩ ⟨by omega, by omega⟩ (fun (zc1 : n < n + 1) => ?_) (fun (zc1 : ¬ n < n + 1) => absurd zc1 (not_not_intro (by omega)))
    refine m_run 1 (ps' := (41, [some (.inr (.inl 1)), some (.inl p), some (.inl q), some (.inl (n + 1)), none], [.inl (-1)], mW (n, T, h, t, x) M, 0, 0)) rfl ?_
    exact m_ret1 rfl (Or.inl rfl) rfl (m_Vi (by rw [opt_end] at ho; subst ho; rfl))
  · intro i hi1 hi2 ih ho
    refine m_run 4 (ps' := (10, [some (.inr (.inl 1)), some (.inl p), some (.inl q), some (.inl i), none], [.inl n, .inl i], mW (n, T, h, t, x) M, 0, 0)) rfl ?_
    refine m_icmp rfl ⟨by omega, by omega⟩ ⟨by omega, by omega⟩ (fun (zc1 : n < i) => absurd zc1 (by omega)) (fun (zc1 : ¬ n < i) => ?_)
    refine m_run 3 (ps' := (16, [some (.inr (.inl 1)), some (.inl p), some (.inl q), some (.inl i), none], [.inl i, .inl p, .inr (.inl 1)], mW (n, T, h, t, x) M, 0, 0)) rfl ?_
    refine m_callVF [.inl p, .inl i] [] rfl rfl ⟨_, rfl, rfl⟩ rfl rfl (k_lt (l := p) (i := i) hR hp ⟨by omega, by omega⟩) ?_
    have zt1 := ltC_in (p := p) (i := i) hn hR.tb
    unfold NP at zt1
    show m_Sem X 29 (19, [some (.inr (.inl 1)), some (.inl p), some (.inl q), some (.inl i), none], [.inl (ltC n tb p i)], mW (n, T, h, t, x) M, 0, 0) _
    refine m_run 4 (ps' := (25, [some (.inr (.inl 1)), some (.inl p), some (.inl q), some (.inl i), some (.inl (ltC n tb p i))], [.inl (ltC n tb p i), .inl q, .inr (.inl 1)], mW (n, T, h, t, x) M, 0, 0)) rfl ?_
    refine m_callVF [.inl q, .inl (ltC n tb p i)] [] rfl rfl ⟨_, rfl, rfl⟩ rfl rfl (k_on (p := q) (l := (ltC n tb p i)) hR hq2 ⟨by omega, by omega⟩) ?_
    show m_Sem X 29 (28, [some (.inr (.inl 1)), some (.inl p), some (.inl q), some (.inl i), some (.inl (ltC n tb p i))], [.inl (bI (onC n tb q (ltC n tb p i)))], mW (n, T, h, t, x) M, 0, 0) _
    refine m_if rfl (bI_R (onC n tb q (ltC n tb p i))) (fun (zc2 : (bI (onC n tb q (ltC n tb p i))) = 0) => ?_) (fun (zc2 : ¬ (bI (onC n tb q (ltC n tb p i))) = 0) => ?_)
    · replace zc2 : (onC n tb q (ltC n tb p i)) = false := bI_e0.mp zc2
      refine m_run 2 (ps' := (2, [some (.inr (.inl 1)), some (.inl p), some (.inl q), some (.inl (i + 1)), some (.inl (ltC n tb p i))], [], mW (n, T, h, t, x) M, 0, 0)) rfl ?_
      refine m_weak [some (.inr (.inl 1)), some (.inl p), some (.inl q), some (.inl (i + 1)), none] ⟨rfl, ⟨rfl, ⟨rfl, ⟨rfl, trivial⟩⟩⟩⟩ ?_
      have hh : lnF n tb p q i = none := by unfold lnF; rw [if_neg (by rw [zc2]; decide)]
      rw [opt_n hi2 hh] at ho
      exact ih ho
    · replace zc2 : (onC n tb q (ltC n tb p i)) = true := bI_n0.mp zc2
      refine m_run 1 (ps' := (33, [some (.inr (.inl 1)), some (.inl p), some (.inl q), some (.inl i), some (.inl (ltC n tb p i))], [.inl (ltC n tb p i)], mW (n, T, h, t, x) M, 0, 0)) rfl ?_
      exact m_ret1 rfl (Or.inl rfl) rfl (m_Vi (by
        have hh : lnF n tb p q i = some (ltC n tb p i) := by unfold lnF; rw [if_pos zc2]
        rw [opt_s hi2 hh] at ho
        subst ho
        rfl))
set_option maxHeartbeats 4000000 in
set_option maxRecDepth 100000 in
theorem k_ln {X : Nat × Nat × (Nat → Int32)} {n : Int} {T : Int → Int} {h : HS} {t : TS} {x : XS} {M : MS} {tb : Int → Int → Int} (hR : repC n T tb) {p q : Int} (hp : m_R p) (hq2 : m_R q) : m_Run X 29 [.inr (.inl 1), .inl p, .inl q] (mW (n, T, h, t, x) M) (m_V (lnC n tb p q) (mW (n, T, h, t, x) M)) := by
  have hn := hR.1
  have hl := okN_lo hn
  have hq := sq_b hn
  show m_Sem X 29 (0, [some (.inr (.inl 1)), some (.inl p), some (.inl q), none, none], [], mW (n, T, h, t, x) M, 0, 0) _
  refine m_run 2 (ps' := (2, [some (.inr (.inl 1)), some (.inl p), some (.inl q), some (.inl 0), none], [], mW (n, T, h, t, x) M, 0, 0)) rfl ?_
  refine m_weak [some (.inr (.inl 1)), some (.inl p), some (.inl q), some (.inl 0), none] ⟨rfl, ⟨rfl, ⟨rfl, ⟨rfl, trivial⟩⟩⟩⟩ ?_
  exact l_ln hR hp hq2 0 (by omega) (by omega) (by rw [z_sub])
set_option maxHeartbeats 4000000 in
set_option maxRecDepth 100000 in
theorem l_mt {X : Nat × Nat × (Nat → Int32)} {n : Int} {T : Int → Int} {h : HS} {t : TS} {x : XS} {M : MS} {tb : Int → Int → Int} (hR : repC n T tb) {p q : Int} {o : Option Int} (hp : m_R p) (hq2 : m_R q) : ∀ i : Int, 0 ≤ i → i ≤ n + 1 → ∀ (ho : optF (mtF n tb p q) (n + 1 - i).toNat i = o), m_Sem X 30 (2, [some (.inr (.inl 1)), some (.inl p), some (.inl q), some (.inl i), none], [], mW (n, T, h, t, x) M, 0, 0) (m_V (oI o) (mW (n, T, h, t, x) M)) := by
  have hn := hR.1
  have hl := okN_lo hn
  have hq := sq_b hn
  refine m_down 0 (n + 1) ?_ ?_
  · intro ho
    show m_Sem X 30 (2, [some (.inr (.inl 1)), some (.inl p), some (.inl q), some (.inl (n + 1)), none], [], mW (n, T, h, t, x) M, 0, 0) _
    refine m_run 4 (ps' := (10, [some (.inr (.inl 1)), some (.inl p), some (.inl q), some (.inl (n + 1)), none], [.inl n, .inl (n + 1)], mW (n, T, h, t, x) M, 0, 0)) rfl ?_
    refine m_icmp rfl ⟨by omega, by omega⟩ ⟨by omega, by omega⟩ (fun (zc1 : n < n + 1) => ?_) (fun (zc1 : ¬ n < n + 1) => absurd zc1 (not_not_intro (by omega)))
    refine m_run 1 (ps' := (41, [some (.inr (.inl 1)), some (.inl p), some (.inl q), some (.inl (n + 1)), none], [.inl (-1)], mW (n, T, h, t, x) M, 0, 0)) rfl ?_
    exact m_ret1 rfl (Or.inl rfl) rfl (m_Vi (by rw [opt_end] at ho; subst ho; rfl))
  · intro i hi1 hi2 ih ho
    refine m_run 4 (ps' := (10, [some (.inr (.inl 1)), some (.inl p), some (.inl q), some (.inl i), none], [.inl n, .inl i], mW (n, T, h, t, x) M, 0, 0)) rfl ?_
    refine m_icmp rfl ⟨by omega, by omega⟩ ⟨by omega, by omega⟩ (fun (zc1 : n < i) => absurd zc1 (by omega)) (fun (zc1 : ¬ n < i) => ?_)
    refine m_run 3 (ps' := (16, [some (.inr (.inl 1)), some (.inl p), some (.inl q), some (.inl i), none], [.inl i, .inl p, .inr (.inl 1)], mW (n, T, h, t, x) M, 0, 0)) rfl ?_
    refine m_callVF [.inl p, .inl i] [] rfl rfl ⟨_, rfl, rfl⟩ rfl rfl (k_pt (l := p) (i := i) hR hp ⟨by omega, by omega⟩) ?_
    have zt1 := ptC_in (l := p) (i := i) hn hR.tb
    unfold NP at zt1
    show m_Sem X 30 (19, [some (.inr (.inl 1)), some (.inl p), some (.inl q), some (.inl i), none], [.inl (ptC n tb p i)], mW (n, T, h, t, x) M, 0, 0) _
    refine m_run 4 (ps' := (25, [some (.inr (.inl 1)), some (.inl p), some (.inl q), some (.inl i), some (.inl (ptC n tb p i))], [.inl q, .inl (ptC n tb p i), .inr (.inl 1)], mW (n, T, h, t, x) M, 0, 0)) rfl ?_
    refine m_callVF [.inl (ptC n tb p i), .inl q] [] rfl rfl ⟨_, rfl, rfl⟩ rfl rfl (k_on (p := (ptC n tb p i)) (l := q) hR ⟨by omega, by omega⟩ hq2) ?_
    show m_Sem X 30 (28, [some (.inr (.inl 1)), some (.inl p), some (.inl q), some (.inl i), some (.inl (ptC n tb p i))], [.inl (bI (onC n tb (ptC n tb p i) q))], mW (n, T, h, t, x) M, 0, 0) _
    refine m_if rfl (bI_R (onC n tb (ptC n tb p i) q)) (fun (zc2 : (bI (onC n tb (ptC n tb p i) q)) = 0) => ?_) (fun (zc2 : ¬ (bI (onC n tb (ptC n tb p i) q)) = 0) => ?_)
    · replace zc2 : (onC n tb (ptC n tb p i) q) = false := bI_e0.mp zc2
      refine m_run 2 (ps' := (2, [some (.inr (.inl 1)), some (.inl p), some (.inl q), some (.inl (i + 1)), some (.inl (ptC n tb p i))], [], mW (n, T, h, t, x) M, 0, 0)) rfl ?_
      refine m_weak [some (.inr (.inl 1)), some (.inl p), some (.inl q), some (.inl (i + 1)), none] ⟨rfl, ⟨rfl, ⟨rfl, ⟨rfl, trivial⟩⟩⟩⟩ ?_
      have hh : mtF n tb p q i = none := by unfold mtF; rw [if_neg (by rw [zc2]; decide)]
      rw [opt_n hi2 hh] at ho
      exact ih ho
    · replace zc2 : (onC n tb (ptC n tb p i) q) = true := bI_n0.mp zc2
      refine m_run 1 (ps' := (33, [some (.inr (.inl 1)), some (.inl p), some (.inl q), some (.inl i), some (.inl (ptC n tb p i))], [.inl (ptC n tb p i)], mW (n, T, h, t, x) M, 0, 0)) rfl ?_
      exact m_ret1 rfl (Or.inl rfl) rfl (m_Vi (by
        have hh : mtF n tb p q i = some (ptC n tb p i) := by unfold mtF; rw [if_pos zc2]
        rw [opt_s hi2 hh] at ho
        subst ho
        rfl))
set_option maxHeartbeats 4000000 in
set_option maxRecDepth 100000 in
theorem k_mt {X : Nat × Nat × (Nat → Int32)} {n : Int} {T : Int → Int} {h : HS} {t : TS} {x : XS} {M : MS} {tb : Int → Int → Int} (hR : repC n T tb) {p q : Int} (hp : m_R p) (hq2 : m_R q) : m_Run X 30 [.inr (.inl 1), .inl p, .inl q] (mW (n, T, h, t, x) M) (m_V (mtC n tb p q) (mW (n, T, h, t, x) M)) := by
  have hn := hR.1
  have hl := okN_lo hn
  have hq := sq_b hn
  show m_Sem X 30 (0, [some (.inr (.inl 1)), some (.inl p), some (.inl q), none, none], [], mW (n, T, h, t, x) M, 0, 0) _
  refine m_run 2 (ps' := (2, [some (.inr (.inl 1)), some (.inl p), some (.inl q), some (.inl 0), none], [], mW (n, T, h, t, x) M, 0, 0)) rfl ?_
  refine m_weak [some (.inr (.inl 1)), some (.inl p), some (.inl q), some (.inl 0), none] ⟨rfl, ⟨rfl, ⟨rfl, ⟨rfl, trivial⟩⟩⟩⟩ ?_
  exact l_mt hR hp hq2 0 (by omega) (by omega) (by rw [z_sub])
def pbC (n : Int) (tb : Int → Int → Int) (l o i : Int) : Int := if ptC n tb l i < o then ptC n tb l i else ptC n tb l (i + 1)
theorem pbC_in {n : Int} {tb : Int → Int → Int} {l o i : Int} (hn : okN n) (ht : tbR n tb) : pbC n tb l o i = -1 ∨ (0 ≤ pbC n tb l o i ∧ pbC n tb l o i < NP n) := by
  unfold pbC
  split
  · exact ptC_in hn ht
  · exact ptC_in hn ht
set_option maxHeartbeats 4000000 in
set_option maxRecDepth 100000 in
theorem k_pb {X : Nat × Nat × (Nat → Int32)} {n : Int} {T : Int → Int} {h : HS} {t : TS} {x : XS} {M : MS} {tb : Int → Int → Int} (hR : repC n T tb) {l o i : Int} (hp : m_R l) (ho : m_R o) (hi : m_R i) (hi2 : m_R (i + 1)) : m_Run X 31 [.inr (.inl 1), .inl l, .inl o, .inl i] (mW (n, T, h, t, x) M) (m_V (pbC n tb l o i) (mW (n, T, h, t, x) M)) := by
  have hn := hR.1
  have hl := okN_lo hn
  have hq := sq_b hn
  show m_Sem X 31 (0, [some (.inr (.inl 1)), some (.inl l), some (.inl o), some (.inl i), none], [], mW (n, T, h, t, x) M, 0, 0) _
  refine m_run 3 (ps' := (3, [some (.inr (.inl 1)), some (.inl l), some (.inl o), some (.inl i), none], [.inl i, .inl l, .inr (.inl 1)], mW (n, T, h, t, x) M, 0, 0)) rfl ?_
  refine m_callVF [.inl l, .inl i] [] rfl rfl ⟨_, rfl, rfl⟩ rfl rfl (k_pt (l := l) (i := i) hR hp hi) ?_
  have zt1 := ptC_in (l := l) (i := i) hn hR.tb
  unfold NP at zt1
  show m_Sem X 31 (6, [some (.inr (.inl 1)), some (.inl l), some (.inl o), some (.inl i), none], [.inl (ptC n tb l i)], mW (n, T, h, t, x) M, 0, 0) _
  refine m_run 3 (ps' := (11, [some (.inr (.inl 1)), some (.inl l), some (.inl o), some (.inl i), some (.inl (ptC n tb l i))], [.inl o, .inl (ptC n tb l i)], mW (n, T, h, t, x) M, 0, 0)) rfl ?_
  refine m_icmp rfl ⟨by omega, by omega⟩ ho (fun (zc1 : o ≤ (ptC n tb l i)) => ?_) (fun (zc1 : ¬ o ≤ (ptC n tb l i)) => ?_)
  · refine m_run 5 (ps' := (24, [some (.inr (.inl 1)), some (.inl l), some (.inl o), some (.inl i), some (.inl (ptC n tb l i))], [.inl (i + 1), .inl l, .inr (.inl 1)], mW (n, T, h, t, x) M, 0, 0)) rfl ?_
    refine m_callVF [.inl l, .inl (i + 1)] [] rfl rfl ⟨_, rfl, rfl⟩ rfl rfl (k_pt (l := l) (i := (i + 1)) hR hp hi2) ?_
    have zt2 := ptC_in (l := l) (i := (i + 1)) hn hR.tb
    unfold NP at zt2
    show m_Sem X 31 (27, [some (.inr (.inl 1)), some (.inl l), some (.inl o), some (.inl i), some (.inl (ptC n tb l i))], [.inl (ptC n tb l (i + 1))], mW (n, T, h, t, x) M, 0, 0) _
    exact m_ret1 rfl (Or.inl rfl) rfl (m_Vi (by unfold pbC; (repeat' split) <;> first | rfl | (exfalso; omega) | omega | simp_all))
  · refine m_run 2 (ps' := (27, [some (.inr (.inl 1)), some (.inl l), some (.inl o), some (.inl i), some (.inl (ptC n tb l i))], [.inl (ptC n tb l i)], mW (n, T, h, t, x) M, 0, 0)) rfl ?_
    exact m_ret1 rfl (Or.inl rfl) rfl (m_Vi (by unfold pbC; (repeat' split) <;> first | rfl | (exfalso; omega) | omega | simp_all))
def crC (n : Int) (tb : Int → Int → Int) (a b c d : Int) : Int := mtC n tb (lnC n tb a b) (lnC n tb c d)
set_option maxHeartbeats 4000000 in
set_option maxRecDepth 100000 in
theorem k_cr {X : Nat × Nat × (Nat → Int32)} {n : Int} {T : Int → Int} {h : HS} {t : TS} {x : XS} {M : MS} {tb : Int → Int → Int} (hR : repC n T tb) {a b c d : Int} (ha : m_R a) (hb : m_R b) (hc : m_R c) (hd : m_R d) : m_Run X 32 [.inr (.inl 1), .inl a, .inl b, .inl c, .inl d] (mW (n, T, h, t, x) M) (m_V (crC n tb a b c d) (mW (n, T, h, t, x) M)) := by
  have hn := hR.1
  have hl := okN_lo hn
  have hq := sq_b hn
  show m_Sem X 32 (0, [some (.inr (.inl 1)), some (.inl a), some (.inl b), some (.inl c), some (.inl d)], [], mW (n, T, h, t, x) M, 0, 0) _
  refine m_run 4 (ps' := (4, [some (.inr (.inl 1)), some (.inl a), some (.inl b), some (.inl c), some (.inl d)], [.inl b, .inl a, .inr (.inl 1), .inr (.inl 1)], mW (n, T, h, t, x) M, 0, 0)) rfl ?_
  refine m_callVF [.inl a, .inl b] [.inr (.inl 1)] rfl rfl ⟨_, rfl, rfl⟩ rfl rfl (k_ln (p := a) (q := b) hR ha hb) ?_
  have zt1 := lnC_in (n := n) (tb := tb) (p := a) (q := b)
  unfold NP at zt1
  show m_Sem X 32 (7, [some (.inr (.inl 1)), some (.inl a), some (.inl b), some (.inl c), some (.inl d)], [.inl (lnC n tb a b), .inr (.inl 1)], mW (n, T, h, t, x) M, 0, 0) _
  refine m_run 3 (ps' := (11, [some (.inr (.inl 1)), some (.inl a), some (.inl b), some (.inl c), some (.inl d)], [.inl d, .inl c, .inr (.inl 1), .inl (lnC n tb a b), .inr (.inl 1)], mW (n, T, h, t, x) M, 0, 0)) rfl ?_
  refine m_callVF [.inl c, .inl d] [.inl (lnC n tb a b), .inr (.inl 1)] rfl rfl ⟨_, rfl, rfl⟩ rfl rfl (k_ln (p := c) (q := d) hR hc hd) ?_
  have zt2 := lnC_in (n := n) (tb := tb) (p := c) (q := d)
  unfold NP at zt2
  show m_Sem X 32 (14, [some (.inr (.inl 1)), some (.inl a), some (.inl b), some (.inl c), some (.inl d)], [.inl (lnC n tb c d), .inl (lnC n tb a b), .inr (.inl 1)], mW (n, T, h, t, x) M, 0, 0) _
  refine m_callVF [.inl (lnC n tb a b), .inl (lnC n tb c d)] [] rfl rfl ⟨_, rfl, rfl⟩ rfl rfl (k_mt (p := (lnC n tb a b)) (q := (lnC n tb c d)) hR ⟨by omega, by omega⟩ ⟨by omega, by omega⟩) ?_
  have zt3 := mtC_in (n := n) (tb := tb) (p := (lnC n tb a b)) (q := (lnC n tb c d))
  unfold NP at zt3
  show m_Sem X 32 (17, [some (.inr (.inl 1)), some (.inl a), some (.inl b), some (.inl c), some (.inl d)], [.inl (mtC n tb (lnC n tb a b) (lnC n tb c d))], mW (n, T, h, t, x) M, 0, 0) _
  exact m_ret1 rfl (Or.inl rfl) rfl (m_Vi rfl)
def olF (n : Int) (tb : Int → Int → Int) (a b c : Int) : Int → Bool := fun i => ! (onC n tb b (ltC n tb a i) && onC n tb c (ltC n tb a i))
def olC (n : Int) (tb : Int → Int → Int) (a b c : Int) : Bool := ! allF (olF n tb a b c) (n + 1).toNat 0
set_option maxHeartbeats 4000000 in
set_option maxRecDepth 100000 in
theorem l_ol {X : Nat × Nat × (Nat → Int32)} {n : Int} {T : Int → Int} {h : HS} {t : TS} {x : XS} {M : MS} {tb : Int → Int → Int} (hR : repC n T tb) {a b c : Int} {o : Bool} (ha : m_R a) (hb : m_R b) (hc : m_R c) : ∀ i : Int, 0 ≤ i → i ≤ n + 1 → ∀ (ho : allF (olF n tb a b c) (n + 1 - i).toNat i = o), m_Sem X 33 (3, [some (.inr (.inl 1)), some (.inl a), some (.inl b), some (.inl c), some (.inl i), none], [], mW (n, T, h, t, x) M, 0, 0) (m_V (bI (! o)) (mW (n, T, h, t, x) M)) := by
  have hn := hR.1
  have hl := okN_lo hn
  have hq := sq_b hn
  refine m_down 0 (n + 1) ?_ ?_
  · intro ho
    show m_Sem X 33 (3, [some (.inr (.inl 1)), some (.inl a), some (.inl b), some (.inl c), some (.inl (n + 1)), none], [], mW (n, T, h, t, x) M, 0, 0) _
    refine m_run 4 (ps' := (12, [some (.inr (.inl 1)), some (.inl a), some (.inl b), some (.inl c), some (.inl (n + 1)), none], [.inl n, .inl (n + 1)], mW (n, T, h, t, x) M, 0, 0)) rfl ?_
    refine m_icmp rfl ⟨by omega, by omega⟩ ⟨by omega, by omega⟩ (fun (zc1 : n < n + 1) => ?_) (fun (zc1 : ¬ n < n + 1) => absurd zc1 (not_not_intro (by omega)))
    refine m_run 1 (ps' := (53, [some (.inr (.inl 1)), some (.inl a), some (.inl b), some (.inl c), some (.inl (n + 1)), none], [.inl 0], mW (n, T, h, t, x) M, 0, 0)) rfl ?_
    exact m_ret1 rfl (Or.inr ⟨rfl, Or.inl rfl⟩) rfl (m_Vb (by rw [all_end] at ho; subst ho; rfl))
  · intro i hi1 hi2 ih ho
    refine m_run 4 (ps' := (12, [some (.inr (.inl 1)), some (.inl a), some (.inl b), some (.inl c), some (.inl i), none], [.inl n, .inl i], mW (n, T, h, t, x) M, 0, 0)) rfl ?_
    refine m_icmp rfl ⟨by omega, by omega⟩ ⟨by omega, by omega⟩ (fun (zc1 : n < i) => absurd zc1 (by omega)) (fun (zc1 : ¬ n < i) => ?_)
    refine m_run 3 (ps' := (19, [some (.inr (.inl 1)), some (.inl a), some (.inl b), some (.inl c), some (.inl i), none], [.inl i, .inl a, .inr (.inl 1)], mW (n, T, h, t, x) M, 0, 0)) rfl ?_
    refine m_callVF [.inl a, .inl i] [] rfl rfl ⟨_, rfl, rfl⟩ rfl rfl (k_lt (l := a) (i := i) hR ha ⟨by omega, by omega⟩) ?_
    have zt1 := ltC_in (p := a) (i := i) hn hR.tb
    unfold NP at zt1
    show m_Sem X 33 (22, [some (.inr (.inl 1)), some (.inl a), some (.inl b), some (.inl c), some (.inl i), none], [.inl (ltC n tb a i)], mW (n, T, h, t, x) M, 0, 0) _
    refine m_run 4 (ps' := (28, [some (.inr (.inl 1)), some (.inl a), some (.inl b), some (.inl c), some (.inl i), some (.inl (ltC n tb a i))], [.inl (ltC n tb a i), .inl b, .inr (.inl 1)], mW (n, T, h, t, x) M, 0, 0)) rfl ?_
    refine m_callVF [.inl b, .inl (ltC n tb a i)] [] rfl rfl ⟨_, rfl, rfl⟩ rfl rfl (k_on (p := b) (l := (ltC n tb a i)) hR hb ⟨by omega, by omega⟩) ?_
    show m_Sem X 33 (31, [some (.inr (.inl 1)), some (.inl a), some (.inl b), some (.inl c), some (.inl i), some (.inl (ltC n tb a i))], [.inl (bI (onC n tb b (ltC n tb a i)))], mW (n, T, h, t, x) M, 0, 0) _
    refine m_if rfl (bI_R (onC n tb b (ltC n tb a i))) (fun (zc2 : (bI (onC n tb b (ltC n tb a i))) = 0) => ?_) (fun (zc2 : ¬ (bI (onC n tb b (ltC n tb a i))) = 0) => ?_)
    · replace zc2 : (onC n tb b (ltC n tb a i)) = false := bI_e0.mp zc2
      refine m_run 2 (ps' := (3, [some (.inr (.inl 1)), some (.inl a), some (.inl b), some (.inl c), some (.inl (i + 1)), some (.inl (ltC n tb a i))], [], mW (n, T, h, t, x) M, 0, 0)) rfl ?_
      refine m_weak [some (.inr (.inl 1)), some (.inl a), some (.inl b), some (.inl c), some (.inl (i + 1)), none] ⟨rfl, ⟨rfl, ⟨rfl, ⟨rfl, ⟨rfl, trivial⟩⟩⟩⟩⟩ ?_
      have hh : olF n tb a b c i = true := by unfold olF; simp [*]
      rw [all_t hi2 hh] at ho
      exact ih ho
    · replace zc2 : (onC n tb b (ltC n tb a i)) = true := bI_n0.mp zc2
      refine m_run 3 (ps' := (38, [some (.inr (.inl 1)), some (.inl a), some (.inl b), some (.inl c), some (.inl i), some (.inl (ltC n tb a i))], [.inl (ltC n tb a i), .inl c, .inr (.inl 1)], mW (n, T, h, t, x) M, 0, 0)) rfl ?_
      refine m_callVF [.inl c, .inl (ltC n tb a i)] [] rfl rfl ⟨_, rfl, rfl⟩ rfl rfl (k_on (p := c) (l := (ltC n tb a i)) hR hc ⟨by omega, by omega⟩) ?_
      show m_Sem X 33 (41, [some (.inr (.inl 1)), some (.inl a), some (.inl b), some (.inl c), some (.inl i), some (.inl (ltC n tb a i))], [.inl (bI (onC n tb c (ltC n tb a i)))], mW (n, T, h, t, x) M, 0, 0) _
      refine m_if rfl (bI_R (onC n tb c (ltC n tb a i))) (fun (zc3 : (bI (onC n tb c (ltC n tb a i))) = 0) => ?_) (fun (zc3 : ¬ (bI (onC n tb c (ltC n tb a i))) = 0) => ?_)
      · replace zc3 : (onC n tb c (ltC n tb a i)) = false := bI_e0.mp zc3
        refine m_run 2 (ps' := (3, [some (.inr (.inl 1)), some (.inl a), some (.inl b), some (.inl c), some (.inl (i + 1)), some (.inl (ltC n tb a i))], [], mW (n, T, h, t, x) M, 0, 0)) rfl ?_
        refine m_weak [some (.inr (.inl 1)), some (.inl a), some (.inl b), some (.inl c), some (.inl (i + 1)), none] ⟨rfl, ⟨rfl, ⟨rfl, ⟨rfl, ⟨rfl, trivial⟩⟩⟩⟩⟩ ?_
        have hh : olF n tb a b c i = true := by unfold olF; simp [*]
        rw [all_t hi2 hh] at ho
        exact ih ho
      · replace zc3 : (onC n tb c (ltC n tb a i)) = true := bI_n0.mp zc3
        refine m_run 1 (ps' := (45, [some (.inr (.inl 1)), some (.inl a), some (.inl b), some (.inl c), some (.inl i), some (.inl (ltC n tb a i))], [.inl 1], mW (n, T, h, t, x) M, 0, 0)) rfl ?_
        exact m_ret1 rfl (Or.inr ⟨rfl, Or.inr rfl⟩) rfl (m_Vb (by
          have hh : olF n tb a b c i = false := by unfold olF; rw [zc2, zc3]; rfl
          rw [all_f hi2 hh] at ho
          subst ho
          rfl))
set_option maxHeartbeats 4000000 in
set_option maxRecDepth 100000 in
theorem k_ol {X : Nat × Nat × (Nat → Int32)} {n : Int} {T : Int → Int} {h : HS} {t : TS} {x : XS} {M : MS} {tb : Int → Int → Int} (hR : repC n T tb) {a b c : Int} (ha : m_R a) (hb : m_R b) (hc : m_R c) : m_Run X 33 [.inr (.inl 1), .inl a, .inl b, .inl c] (mW (n, T, h, t, x) M) (m_V (bI (olC n tb a b c)) (mW (n, T, h, t, x) M)) := by
  have hn := hR.1
  have hl := okN_lo hn
  have hq := sq_b hn
  show m_Sem X 33 (0, [some (.inr (.inl 1)), some (.inl a), some (.inl b), some (.inl c), none, none], [], mW (n, T, h, t, x) M, 0, 0) _
  refine m_run 2 (ps' := (3, [some (.inr (.inl 1)), some (.inl a), some (.inl b), some (.inl c), some (.inl 0), none], [], mW (n, T, h, t, x) M, 0, 0)) rfl ?_
  refine m_weak [some (.inr (.inl 1)), some (.inl a), some (.inl b), some (.inl c), some (.inl 0), none] ⟨rfl, ⟨rfl, ⟨rfl, ⟨rfl, ⟨rfl, trivial⟩⟩⟩⟩⟩ ?_
  exact l_ol hR ha hb hc 0 (by omega) (by omega) (by rw [z_sub])
def triC (n : Int) (tb : Int → Int → Int) (p l m k i j : Int) : Int :=
  let f1 := ltC n tb p l
  let f2 := ltC n tb p m
  let f3 := ltC n tb p k
  let a := pbC n tb f1 p i
  let b := pbC n tb f2 p i
  let c := pbC n tb f3 p i
  let d := pbC n tb f1 p j
  let e := pbC n tb f2 p j
  let f := pbC n tb f3 p j
  if olC n tb a b c = true then -1000002 else if olC n tb d e f = true then -1000002
  else bI (olC n tb (crC n tb a b d e) (crC n tb a c d f) (crC n tb b c e f))
def hexC (n : Int) (tb : Int → Int → Int) (l m : Int) : Bool :=
  let z := mtC n tb l m
  let a := pbC n tb l z 0
  let b := pbC n tb l z 1
  let c := pbC n tb l z 2
  let d := pbC n tb m z 0
  let e := pbC n tb m z 1
  let f := pbC n tb m z 2
  olC n tb (crC n tb a e b d) (crC n tb a f c d) (crC n tb b f c e)
set_option maxHeartbeats 4000000 in
set_option maxRecDepth 100000 in
theorem k_tri {X : Nat × Nat × (Nat → Int32)} {n : Int} {T : Int → Int} {h : HS} {t : TS} {x : XS} {M : MS} {tb : Int → Int → Int} (hR : repC n T tb) {p l m k i j : Int} (hp : m_R p) (hll : m_R l) (hm : m_R m) (hk : m_R k) (hi : -1 ≤ i ∧ i ≤ 100) (hj : -1 ≤ j ∧ j ≤ 100) : m_Run X 34 [.inr (.inl 1), .inl p, .inl l, .inl m, .inl k, .inl i, .inl j] (mW (n, T, h, t, x) M) (m_V (triC n tb p l m k i j) (mW (n, T, h, t, x) M)) := by
  have hn := hR.1
  have hl := okN_lo hn
  have hq := sq_b hn
  show m_Sem X 34 (0, [some (.inr (.inl 1)), some (.inl p), some (.inl l), some (.inl m), some (.inl k), some (.inl i), some (.inl j), none, none, none, none, none, none, none, none, none], [], mW (n, T, h, t, x) M, 0, 0) _
  refine m_run 3 (ps' := (3, [some (.inr (.inl 1)), some (.inl p), some (.inl l), some (.inl m), some (.inl k), some (.inl i), some (.inl j), none, none, none, none, none, none, none, none, none], [.inl l, .inl p, .inr (.inl 1)], mW (n, T, h, t, x) M, 0, 0)) rfl ?_
  refine m_callVF [.inl p, .inl l] [] rfl rfl ⟨_, rfl, rfl⟩ rfl rfl (k_lt (l := p) (i := l) hR hp hll) ?_
  have zt1 := ltC_in (p := p) (i := l) hn hR.tb
  unfold NP at zt1
  show m_Sem X 34 (6, [some (.inr (.inl 1)), some (.inl p), some (.inl l), some (.inl m), some (.inl k), some (.inl i), some (.inl j), none, none, none, none, none, none, none, none, none], [.inl (ltC n tb p l)], mW (n, T, h, t, x) M, 0, 0) _
  refine m_run 4 (ps' := (11, [some (.inr (.inl 1)), some (.inl p), some (.inl l), some (.inl m), some (.inl k), some (.inl i), some (.inl j), some (.inl (ltC n tb p l)), none, none, none, none, none, none, none, none], [.inl m, .inl p, .inr (.inl 1)], mW (n, T, h, t, x) M, 0, 0)) rfl ?_
  refine m_callVF [.inl p, .inl m] [] rfl rfl ⟨_, rfl, rfl⟩ rfl rfl (k_lt (l := p) (i := m) hR hp hm) ?_
  have zt2 := ltC_in (p := p) (i := m) hn hR.tb
  unfold NP at zt2
  show m_Sem X 34 (14, [some (.inr (.inl 1)), some (.inl p), some (.inl l), some (.inl m), some (.inl k), some (.inl i), some (.inl j), some (.inl (ltC n tb p l)), none, none, none, none, none, none, none, none], [.inl (ltC n tb p m)], mW (n, T, h, t, x) M, 0, 0) _
  refine m_run 4 (ps' := (20, [some (.inr (.inl 1)), some (.inl p), some (.inl l), some (.inl m), some (.inl k), some (.inl i), some (.inl j), some (.inl (ltC n tb p l)), some (.inl (ltC n tb p m)), none, none, none, none, none, none, none], [.inl k, .inl p, .inr (.inl 1)], mW (n, T, h, t, x) M, 0, 0)) rfl ?_
  refine m_callVF [.inl p, .inl k] [] rfl rfl ⟨_, rfl, rfl⟩ rfl rfl (k_lt (l := p) (i := k) hR hp hk) ?_
  have zt3 := ltC_in (p := p) (i := k) hn hR.tb
  unfold NP at zt3
  show m_Sem X 34 (23, [some (.inr (.inl 1)), some (.inl p), some (.inl l), some (.inl m), some (.inl k), some (.inl i), some (.inl j), some (.inl (ltC n tb p l)), some (.inl (ltC n tb p m)), none, none, none, none, none, none, none], [.inl (ltC n tb p k)], mW (n, T, h, t, x) M, 0, 0) _
  refine m_run 5 (ps' := (31, [some (.inr (.inl 1)), some (.inl p), some (.inl l), some (.inl m), some (.inl k), some (.inl i), some (.inl j), some (.inl (ltC n tb p l)), some (.inl (ltC n tb p m)), some (.inl (ltC n tb p k)), none, none, none, none, none, none], [.inl i, .inl p, .inl (ltC n tb p l), .inr (.inl 1)], mW (n, T, h, t, x) M, 0, 0)) rfl ?_
  refine m_callVF [.inl (ltC n tb p l), .inl p, .inl i] [] rfl rfl ⟨_, rfl, rfl⟩ rfl rfl (k_pb (l := (ltC n tb p l)) (o := p) (i := i) hR ⟨by omega, by omega⟩ hp ⟨by omega, by omega⟩ ⟨by omega, by omega⟩) ?_
  have zt4 := pbC_in (l := (ltC n tb p l)) (o := p) (i := i) hn hR.tb
  unfold NP at zt4
  show m_Sem X 34 (34, [some (.inr (.inl 1)), some (.inl p), some (.inl l), some (.inl m), some (.inl k), some (.inl i), some (.inl j), some (.inl (ltC n tb p l)), some (.inl (ltC n tb p m)), some (.inl (ltC n tb p k)), none, none, none, none, none, none], [.inl (pbC n tb (ltC n tb p l) p i)], mW (n, T, h, t, x) M, 0, 0) _
  refine m_run 5 (ps' := (42, [some (.inr (.inl 1)), some (.inl p), some (.inl l), some (.inl m), some (.inl k), some (.inl i), some (.inl j), some (.inl (ltC n tb p l)), some (.inl (ltC n tb p m)), some (.inl (ltC n tb p k)), some (.inl (pbC n tb (ltC n tb p l) p i)), none, none, none, none, none], [.inl i, .inl p, .inl (ltC n tb p m), .inr (.inl 1)], mW (n, T, h, t, x) M, 0, 0)) rfl ?_
  refine m_callVF [.inl (ltC n tb p m), .inl p, .inl i] [] rfl rfl ⟨_, rfl, rfl⟩ rfl rfl (k_pb (l := (ltC n tb p m)) (o := p) (i := i) hR ⟨by omega, by omega⟩ hp ⟨by omega, by omega⟩ ⟨by omega, by omega⟩) ?_
  have zt5 := pbC_in (l := (ltC n tb p m)) (o := p) (i := i) hn hR.tb
  unfold NP at zt5
  show m_Sem X 34 (45, [some (.inr (.inl 1)), some (.inl p), some (.inl l), some (.inl m), some (.inl k), some (.inl i), some (.inl j), some (.inl (ltC n tb p l)), some (.inl (ltC n tb p m)), some (.inl (ltC n tb p k)), some (.inl (pbC n tb (ltC n tb p l) p i)), none, none, none, none, none], [.inl (pbC n tb (ltC n tb p m) p i)], mW (n, T, h, t, x) M, 0, 0) _
  refine m_run 5 (ps' := (53, [some (.inr (.inl 1)), some (.inl p), some (.inl l), some (.inl m), some (.inl k), some (.inl i), some (.inl j), some (.inl (ltC n tb p l)), some (.inl (ltC n tb p m)), some (.inl (ltC n tb p k)), some (.inl (pbC n tb (ltC n tb p l) p i)), some (.inl (pbC n tb (ltC n tb p m) p i)), none, none, none, none], [.inl i, .inl p, .inl (ltC n tb p k), .inr (.inl 1)], mW (n, T, h, t, x) M, 0, 0)) rfl ?_
  refine m_callVF [.inl (ltC n tb p k), .inl p, .inl i] [] rfl rfl ⟨_, rfl, rfl⟩ rfl rfl (k_pb (l := (ltC n tb p k)) (o := p) (i := i) hR ⟨by omega, by omega⟩ hp ⟨by omega, by omega⟩ ⟨by omega, by omega⟩) ?_
  have zt6 := pbC_in (l := (ltC n tb p k)) (o := p) (i := i) hn hR.tb
  unfold NP at zt6
  show m_Sem X 34 (56, [some (.inr (.inl 1)), some (.inl p), some (.inl l), some (.inl m), some (.inl k), some (.inl i), some (.inl j), some (.inl (ltC n tb p l)), some (.inl (ltC n tb p m)), some (.inl (ltC n tb p k)), some (.inl (pbC n tb (ltC n tb p l) p i)), some (.inl (pbC n tb (ltC n tb p m) p i)), none, none, none, none], [.inl (pbC n tb (ltC n tb p k) p i)], mW (n, T, h, t, x) M, 0, 0) _
  refine m_run 5 (ps' := (64, [some (.inr (.inl 1)), some (.inl p), some (.inl l), some (.inl m), some (.inl k), some (.inl i), some (.inl j), some (.inl (ltC n tb p l)), some (.inl (ltC n tb p m)), some (.inl (ltC n tb p k)), some (.inl (pbC n tb (ltC n tb p l) p i)), some (.inl (pbC n tb (ltC n tb p m) p i)), some (.inl (pbC n tb (ltC n tb p k) p i)), none, none, none], [.inl j, .inl p, .inl (ltC n tb p l), .inr (.inl 1)], mW (n, T, h, t, x) M, 0, 0)) rfl ?_
  refine m_callVF [.inl (ltC n tb p l), .inl p, .inl j] [] rfl rfl ⟨_, rfl, rfl⟩ rfl rfl (k_pb (l := (ltC n tb p l)) (o := p) (i := j) hR ⟨by omega, by omega⟩ hp ⟨by omega, by omega⟩ ⟨by omega, by omega⟩) ?_
  have zt7 := pbC_in (l := (ltC n tb p l)) (o := p) (i := j) hn hR.tb
  unfold NP at zt7
  show m_Sem X 34 (67, [some (.inr (.inl 1)), some (.inl p), some (.inl l), some (.inl m), some (.inl k), some (.inl i), some (.inl j), some (.inl (ltC n tb p l)), some (.inl (ltC n tb p m)), some (.inl (ltC n tb p k)), some (.inl (pbC n tb (ltC n tb p l) p i)), some (.inl (pbC n tb (ltC n tb p m) p i)), some (.inl (pbC n tb (ltC n tb p k) p i)), none, none, none], [.inl (pbC n tb (ltC n tb p l) p j)], mW (n, T, h, t, x) M, 0, 0) _
  refine m_run 5 (ps' := (75, [some (.inr (.inl 1)), some (.inl p), some (.inl l), some (.inl m), some (.inl k), some (.inl i), some (.inl j), some (.inl (ltC n tb p l)), some (.inl (ltC n tb p m)), some (.inl (ltC n tb p k)), some (.inl (pbC n tb (ltC n tb p l) p i)), some (.inl (pbC n tb (ltC n tb p m) p i)), some (.inl (pbC n tb (ltC n tb p k) p i)), some (.inl (pbC n tb (ltC n tb p l) p j)), none, none], [.inl j, .inl p, .inl (ltC n tb p m), .inr (.inl 1)], mW (n, T, h, t, x) M, 0, 0)) rfl ?_
  refine m_callVF [.inl (ltC n tb p m), .inl p, .inl j] [] rfl rfl ⟨_, rfl, rfl⟩ rfl rfl (k_pb (l := (ltC n tb p m)) (o := p) (i := j) hR ⟨by omega, by omega⟩ hp ⟨by omega, by omega⟩ ⟨by omega, by omega⟩) ?_
  have zt8 := pbC_in (l := (ltC n tb p m)) (o := p) (i := j) hn hR.tb
  unfold NP at zt8
  show m_Sem X 34 (78, [some (.inr (.inl 1)), some (.inl p), some (.inl l), some (.inl m), some (.inl k), some (.inl i), some (.inl j), some (.inl (ltC n tb p l)), some (.inl (ltC n tb p m)), some (.inl (ltC n tb p k)), some (.inl (pbC n tb (ltC n tb p l) p i)), some (.inl (pbC n tb (ltC n tb p m) p i)), some (.inl (pbC n tb (ltC n tb p k) p i)), some (.inl (pbC n tb (ltC n tb p l) p j)), none, none], [.inl (pbC n tb (ltC n tb p m) p j)], mW (n, T, h, t, x) M, 0, 0) _
  refine m_run 5 (ps' := (86, [some (.inr (.inl 1)), some (.inl p), some (.inl l), some (.inl m), some (.inl k), some (.inl i), some (.inl j), some (.inl (ltC n tb p l)), some (.inl (ltC n tb p m)), some (.inl (ltC n tb p k)), some (.inl (pbC n tb (ltC n tb p l) p i)), some (.inl (pbC n tb (ltC n tb p m) p i)), some (.inl (pbC n tb (ltC n tb p k) p i)), some (.inl (pbC n tb (ltC n tb p l) p j)), some (.inl (pbC n tb (ltC n tb p m) p j)), none], [.inl j, .inl p, .inl (ltC n tb p k), .inr (.inl 1)], mW (n, T, h, t, x) M, 0, 0)) rfl ?_
  refine m_callVF [.inl (ltC n tb p k), .inl p, .inl j] [] rfl rfl ⟨_, rfl, rfl⟩ rfl rfl (k_pb (l := (ltC n tb p k)) (o := p) (i := j) hR ⟨by omega, by omega⟩ hp ⟨by omega, by omega⟩ ⟨by omega, by omega⟩) ?_
  have zt9 := pbC_in (l := (ltC n tb p k)) (o := p) (i := j) hn hR.tb
  unfold NP at zt9
  show m_Sem X 34 (89, [some (.inr (.inl 1)), some (.inl p), some (.inl l), some (.inl m), some (.inl k), some (.inl i), some (.inl j), some (.inl (ltC n tb p l)), some (.inl (ltC n tb p m)), some (.inl (ltC n tb p k)), some (.inl (pbC n tb (ltC n tb p l) p i)), some (.inl (pbC n tb (ltC n tb p m) p i)), some (.inl (pbC n tb (ltC n tb p k) p i)), some (.inl (pbC n tb (ltC n tb p l) p j)), some (.inl (pbC n tb (ltC n tb p m) p j)), none], [.inl (pbC n tb (ltC n tb p k) p j)], mW (n, T, h, t, x) M, 0, 0) _
  refine m_run 5 (ps' := (98, [some (.inr (.inl 1)), some (.inl p), some (.inl l), some (.inl m), some (.inl k), some (.inl i), some (.inl j), some (.inl (ltC n tb p l)), some (.inl (ltC n tb p m)), some (.inl (ltC n tb p k)), some (.inl (pbC n tb (ltC n tb p l) p i)), some (.inl (pbC n tb (ltC n tb p m) p i)), some (.inl (pbC n tb (ltC n tb p k) p i)), some (.inl (pbC n tb (ltC n tb p l) p j)), some (.inl (pbC n tb (ltC n tb p m) p j)), some (.inl (pbC n tb (ltC n tb p k) p j))], [.inl (pbC n tb (ltC n tb p k) p i), .inl (pbC n tb (ltC n tb p m) p i), .inl (pbC n tb (ltC n tb p l) p i), .inr (.inl 1)], mW (n, T, h, t, x) M, 0, 0)) rfl ?_
  refine m_callVF [.inl (pbC n tb (ltC n tb p l) p i), .inl (pbC n tb (ltC n tb p m) p i), .inl (pbC n tb (ltC n tb p k) p i)] [] rfl rfl ⟨_, rfl, rfl⟩ rfl rfl (k_ol (a := (pbC n tb (ltC n tb p l) p i)) (b := (pbC n tb (ltC n tb p m) p i)) (c := (pbC n tb (ltC n tb p k) p i)) hR ⟨by omega, by omega⟩ ⟨by omega, by omega⟩ ⟨by omega, by omega⟩) ?_
  show m_Sem X 34 (101, [some (.inr (.inl 1)), some (.inl p), some (.inl l), some (.inl m), some (.inl k), some (.inl i), some (.inl j), some (.inl (ltC n tb p l)), some (.inl (ltC n tb p m)), some (.inl (ltC n tb p k)), some (.inl (pbC n tb (ltC n tb p l) p i)), some (.inl (pbC n tb (ltC n tb p m) p i)), some (.inl (pbC n tb (ltC n tb p k) p i)), some (.inl (pbC n tb (ltC n tb p l) p j)), some (.inl (pbC n tb (ltC n tb p m) p j)), some (.inl (pbC n tb (ltC n tb p k) p j))], [.inl (bI (olC n tb (pbC n tb (ltC n tb p l) p i) (pbC n tb (ltC n tb p m) p i) (pbC n tb (ltC n tb p k) p i)))], mW (n, T, h, t, x) M, 0, 0) _
  refine m_if rfl (bI_R (olC n tb (pbC n tb (ltC n tb p l) p i) (pbC n tb (ltC n tb p m) p i) (pbC n tb (ltC n tb p k) p i))) (fun (zc1 : ¬ (bI (olC n tb (pbC n tb (ltC n tb p l) p i) (pbC n tb (ltC n tb p m) p i) (pbC n tb (ltC n tb p k) p i))) = 0) => ?_) (fun (zc1 : ¬ ¬ (bI (olC n tb (pbC n tb (ltC n tb p l) p i) (pbC n tb (ltC n tb p m) p i) (pbC n tb (ltC n tb p k) p i))) = 0) => ?_)
  · replace zc1 : (olC n tb (pbC n tb (ltC n tb p l) p i) (pbC n tb (ltC n tb p m) p i) (pbC n tb (ltC n tb p k) p i)) = true := bI_n0.mp zc1
    refine m_run 1 (ps' := (119, [some (.inr (.inl 1)), some (.inl p), some (.inl l), some (.inl m), some (.inl k), some (.inl i), some (.inl j), some (.inl (ltC n tb p l)), some (.inl (ltC n tb p m)), some (.inl (ltC n tb p k)), some (.inl (pbC n tb (ltC n tb p l) p i)), some (.inl (pbC n tb (ltC n tb p m) p i)), some (.inl (pbC n tb (ltC n tb p k) p i)), some (.inl (pbC n tb (ltC n tb p l) p j)), some (.inl (pbC n tb (ltC n tb p m) p j)), some (.inl (pbC n tb (ltC n tb p k) p j))], [.inl (-1000002)], mW (n, T, h, t, x) M, 0, 0)) rfl ?_
    exact m_ret1 rfl (Or.inl rfl) rfl (m_Vi (by show _ = (if _ then _ else if _ then _ else _); simp [*]))
  · replace zc1 : (olC n tb (pbC n tb (ltC n tb p l) p i) (pbC n tb (ltC n tb p m) p i) (pbC n tb (ltC n tb p k) p i)) = false := bI_e0.mp (Decidable.not_not.mp zc1)
    refine m_run 4 (ps' := (111, [some (.inr (.inl 1)), some (.inl p), some (.inl l), some (.inl m), some (.inl k), some (.inl i), some (.inl j), some (.inl (ltC n tb p l)), some (.inl (ltC n tb p m)), some (.inl (ltC n tb p k)), some (.inl (pbC n tb (ltC n tb p l) p i)), some (.inl (pbC n tb (ltC n tb p m) p i)), some (.inl (pbC n tb (ltC n tb p k) p i)), some (.inl (pbC n tb (ltC n tb p l) p j)), some (.inl (pbC n tb (ltC n tb p m) p j)), some (.inl (pbC n tb (ltC n tb p k) p j))], [.inl (pbC n tb (ltC n tb p k) p j), .inl (pbC n tb (ltC n tb p m) p j), .inl (pbC n tb (ltC n tb p l) p j), .inr (.inl 1)], mW (n, T, h, t, x) M, 0, 0)) rfl ?_
    refine m_callVF [.inl (pbC n tb (ltC n tb p l) p j), .inl (pbC n tb (ltC n tb p m) p j), .inl (pbC n tb (ltC n tb p k) p j)] [] rfl rfl ⟨_, rfl, rfl⟩ rfl rfl (k_ol (a := (pbC n tb (ltC n tb p l) p j)) (b := (pbC n tb (ltC n tb p m) p j)) (c := (pbC n tb (ltC n tb p k) p j)) hR ⟨by omega, by omega⟩ ⟨by omega, by omega⟩ ⟨by omega, by omega⟩) ?_
    show m_Sem X 34 (114, [some (.inr (.inl 1)), some (.inl p), some (.inl l), some (.inl m), some (.inl k), some (.inl i), some (.inl j), some (.inl (ltC n tb p l)), some (.inl (ltC n tb p m)), some (.inl (ltC n tb p k)), some (.inl (pbC n tb (ltC n tb p l) p i)), some (.inl (pbC n tb (ltC n tb p m) p i)), some (.inl (pbC n tb (ltC n tb p k) p i)), some (.inl (pbC n tb (ltC n tb p l) p j)), some (.inl (pbC n tb (ltC n tb p m) p j)), some (.inl (pbC n tb (ltC n tb p k) p j))], [.inl (bI (olC n tb (pbC n tb (ltC n tb p l) p j) (pbC n tb (ltC n tb p m) p j) (pbC n tb (ltC n tb p k) p j)))], mW (n, T, h, t, x) M, 0, 0) _
    refine m_if rfl (bI_R (olC n tb (pbC n tb (ltC n tb p l) p j) (pbC n tb (ltC n tb p m) p j) (pbC n tb (ltC n tb p k) p j))) (fun (zc2 : (bI (olC n tb (pbC n tb (ltC n tb p l) p j) (pbC n tb (ltC n tb p m) p j) (pbC n tb (ltC n tb p k) p j))) = 0) => ?_) (fun (zc2 : ¬ (bI (olC n tb (pbC n tb (ltC n tb p l) p j) (pbC n tb (ltC n tb p m) p j) (pbC n tb (ltC n tb p k) p j))) = 0) => ?_)
    · replace zc2 : (olC n tb (pbC n tb (ltC n tb p l) p j) (pbC n tb (ltC n tb p m) p j) (pbC n tb (ltC n tb p k) p j)) = false := bI_e0.mp zc2
      refine m_run 6 (ps' := (130, [some (.inr (.inl 1)), some (.inl p), some (.inl l), some (.inl m), some (.inl k), some (.inl i), some (.inl j), some (.inl (ltC n tb p l)), some (.inl (ltC n tb p m)), some (.inl (ltC n tb p k)), some (.inl (pbC n tb (ltC n tb p l) p i)), some (.inl (pbC n tb (ltC n tb p m) p i)), some (.inl (pbC n tb (ltC n tb p k) p i)), some (.inl (pbC n tb (ltC n tb p l) p j)), some (.inl (pbC n tb (ltC n tb p m) p j)), some (.inl (pbC n tb (ltC n tb p k) p j))], [.inl (pbC n tb (ltC n tb p m) p j), .inl (pbC n tb (ltC n tb p l) p j), .inl (pbC n tb (ltC n tb p m) p i), .inl (pbC n tb (ltC n tb p l) p i), .inr (.inl 1), .inr (.inl 1)], mW (n, T, h, t, x) M, 0, 0)) rfl ?_
      refine m_callVF [.inl (pbC n tb (ltC n tb p l) p i), .inl (pbC n tb (ltC n tb p m) p i), .inl (pbC n tb (ltC n tb p l) p j), .inl (pbC n tb (ltC n tb p m) p j)] [.inr (.inl 1)] rfl rfl ⟨_, rfl, rfl⟩ rfl rfl (k_cr (a := (pbC n tb (ltC n tb p l) p i)) (b := (pbC n tb (ltC n tb p m) p i)) (c := (pbC n tb (ltC n tb p l) p j)) (d := (pbC n tb (ltC n tb p m) p j)) hR ⟨by omega, by omega⟩ ⟨by omega, by omega⟩ ⟨by omega, by omega⟩ ⟨by omega, by omega⟩) ?_
      have zt10 := mtC_in (n := n) (tb := tb) (p := lnC n tb (pbC n tb (ltC n tb p l) p i) (pbC n tb (ltC n tb p m) p i)) (q := lnC n tb (pbC n tb (ltC n tb p l) p j) (pbC n tb (ltC n tb p m) p j))
      unfold NP at zt10
      rw [show mtC n tb (lnC n tb (pbC n tb (ltC n tb p l) p i) (pbC n tb (ltC n tb p m) p i)) (lnC n tb (pbC n tb (ltC n tb p l) p j) (pbC n tb (ltC n tb p m) p j)) = crC n tb (pbC n tb (ltC n tb p l) p i) (pbC n tb (ltC n tb p m) p i) (pbC n tb (ltC n tb p l) p j) (pbC n tb (ltC n tb p m) p j) from rfl] at zt10
      show m_Sem X 34 (133, [some (.inr (.inl 1)), some (.inl p), some (.inl l), some (.inl m), some (.inl k), some (.inl i), some (.inl j), some (.inl (ltC n tb p l)), some (.inl (ltC n tb p m)), some (.inl (ltC n tb p k)), some (.inl (pbC n tb (ltC n tb p l) p i)), some (.inl (pbC n tb (ltC n tb p m) p i)), some (.inl (pbC n tb (ltC n tb p k) p i)), some (.inl (pbC n tb (ltC n tb p l) p j)), some (.inl (pbC n tb (ltC n tb p m) p j)), some (.inl (pbC n tb (ltC n tb p k) p j))], [.inl (crC n tb (pbC n tb (ltC n tb p l) p i) (pbC n tb (ltC n tb p m) p i) (pbC n tb (ltC n tb p l) p j) (pbC n tb (ltC n tb p m) p j)), .inr (.inl 1)], mW (n, T, h, t, x) M, 0, 0) _
      refine m_run 5 (ps' := (142, [some (.inr (.inl 1)), some (.inl p), some (.inl l), some (.inl m), some (.inl k), some (.inl i), some (.inl j), some (.inl (ltC n tb p l)), some (.inl (ltC n tb p m)), some (.inl (ltC n tb p k)), some (.inl (pbC n tb (ltC n tb p l) p i)), some (.inl (pbC n tb (ltC n tb p m) p i)), some (.inl (pbC n tb (ltC n tb p k) p i)), some (.inl (pbC n tb (ltC n tb p l) p j)), some (.inl (pbC n tb (ltC n tb p m) p j)), some (.inl (pbC n tb (ltC n tb p k) p j))], [.inl (pbC n tb (ltC n tb p k) p j), .inl (pbC n tb (ltC n tb p l) p j), .inl (pbC n tb (ltC n tb p k) p i), .inl (pbC n tb (ltC n tb p l) p i), .inr (.inl 1), .inl (crC n tb (pbC n tb (ltC n tb p l) p i) (pbC n tb (ltC n tb p m) p i) (pbC n tb (ltC n tb p l) p j) (pbC n tb (ltC n tb p m) p j)), .inr (.inl 1)], mW (n, T, h, t, x) M, 0, 0)) rfl ?_
      refine m_callVF [.inl (pbC n tb (ltC n tb p l) p i), .inl (pbC n tb (ltC n tb p k) p i), .inl (pbC n tb (ltC n tb p l) p j), .inl (pbC n tb (ltC n tb p k) p j)] [.inl (crC n tb (pbC n tb (ltC n tb p l) p i) (pbC n tb (ltC n tb p m) p i) (pbC n tb (ltC n tb p l) p j) (pbC n tb (ltC n tb p m) p j)), .inr (.inl 1)] rfl rfl ⟨_, rfl, rfl⟩ rfl rfl (k_cr (a := (pbC n tb (ltC n tb p l) p i)) (b := (pbC n tb (ltC n tb p k) p i)) (c := (pbC n tb (ltC n tb p l) p j)) (d := (pbC n tb (ltC n tb p k) p j)) hR ⟨by omega, by omega⟩ ⟨by omega, by omega⟩ ⟨by omega, by omega⟩ ⟨by omega, by omega⟩) ?_
      have zt11 := mtC_in (n := n) (tb := tb) (p := lnC n tb (pbC n tb (ltC n tb p l) p i) (pbC n tb (ltC n tb p k) p i)) (q := lnC n tb (pbC n tb (ltC n tb p l) p j) (pbC n tb (ltC n tb p k) p j))
      unfold NP at zt11
      rw [show mtC n tb (lnC n tb (pbC n tb (ltC n tb p l) p i) (pbC n tb (ltC n tb p k) p i)) (lnC n tb (pbC n tb (ltC n tb p l) p j) (pbC n tb (ltC n tb p k) p j)) = crC n tb (pbC n tb (ltC n tb p l) p i) (pbC n tb (ltC n tb p k) p i) (pbC n tb (ltC n tb p l) p j) (pbC n tb (ltC n tb p k) p j) from rfl] at zt11
      show m_Sem X 34 (145, [some (.inr (.inl 1)), some (.inl p), some (.inl l), some (.inl m), some (.inl k), some (.inl i), some (.inl j), some (.inl (ltC n tb p l)), some (.inl (ltC n tb p m)), some (.inl (ltC n tb p k)), some (.inl (pbC n tb (ltC n tb p l) p i)), some (.inl (pbC n tb (ltC n tb p m) p i)), some (.inl (pbC n tb (ltC n tb p k) p i)), some (.inl (pbC n tb (ltC n tb p l) p j)), some (.inl (pbC n tb (ltC n tb p m) p j)), some (.inl (pbC n tb (ltC n tb p k) p j))], [.inl (crC n tb (pbC n tb (ltC n tb p l) p i) (pbC n tb (ltC n tb p k) p i) (pbC n tb (ltC n tb p l) p j) (pbC n tb (ltC n tb p k) p j)), .inl (crC n tb (pbC n tb (ltC n tb p l) p i) (pbC n tb (ltC n tb p m) p i) (pbC n tb (ltC n tb p l) p j) (pbC n tb (ltC n tb p m) p j)), .inr (.inl 1)], mW (n, T, h, t, x) M, 0, 0) _
      refine m_run 5 (ps' := (154, [some (.inr (.inl 1)), some (.inl p), some (.inl l), some (.inl m), some (.inl k), some (.inl i), some (.inl j), some (.inl (ltC n tb p l)), some (.inl (ltC n tb p m)), some (.inl (ltC n tb p k)), some (.inl (pbC n tb (ltC n tb p l) p i)), some (.inl (pbC n tb (ltC n tb p m) p i)), some (.inl (pbC n tb (ltC n tb p k) p i)), some (.inl (pbC n tb (ltC n tb p l) p j)), some (.inl (pbC n tb (ltC n tb p m) p j)), some (.inl (pbC n tb (ltC n tb p k) p j))], [.inl (pbC n tb (ltC n tb p k) p j), .inl (pbC n tb (ltC n tb p m) p j), .inl (pbC n tb (ltC n tb p k) p i), .inl (pbC n tb (ltC n tb p m) p i), .inr (.inl 1), .inl (crC n tb (pbC n tb (ltC n tb p l) p i) (pbC n tb (ltC n tb p k) p i) (pbC n tb (ltC n tb p l) p j) (pbC n tb (ltC n tb p k) p j)), .inl (crC n tb (pbC n tb (ltC n tb p l) p i) (pbC n tb (ltC n tb p m) p i) (pbC n tb (ltC n tb p l) p j) (pbC n tb (ltC n tb p m) p j)), .inr (.inl 1)], mW (n, T, h, t, x) M, 0, 0)) rfl ?_
      refine m_callVF [.inl (pbC n tb (ltC n tb p m) p i), .inl (pbC n tb (ltC n tb p k) p i), .inl (pbC n tb (ltC n tb p m) p j), .inl (pbC n tb (ltC n tb p k) p j)] [.inl (crC n tb (pbC n tb (ltC n tb p l) p i) (pbC n tb (ltC n tb p k) p i) (pbC n tb (ltC n tb p l) p j) (pbC n tb (ltC n tb p k) p j)), .inl (crC n tb (pbC n tb (ltC n tb p l) p i) (pbC n tb (ltC n tb p m) p i) (pbC n tb (ltC n tb p l) p j) (pbC n tb (ltC n tb p m) p j)), .inr (.inl 1)] rfl rfl ⟨_, rfl, rfl⟩ rfl rfl (k_cr (a := (pbC n tb (ltC n tb p m) p i)) (b := (pbC n tb (ltC n tb p k) p i)) (c := (pbC n tb (ltC n tb p m) p j)) (d := (pbC n tb (ltC n tb p k) p j)) hR ⟨by omega, by omega⟩ ⟨by omega, by omega⟩ ⟨by omega, by omega⟩ ⟨by omega, by omega⟩) ?_
      have zt12 := mtC_in (n := n) (tb := tb) (p := lnC n tb (pbC n tb (ltC n tb p m) p i) (pbC n tb (ltC n tb p k) p i)) (q := lnC n tb (pbC n tb (ltC n tb p m) p j) (pbC n tb (ltC n tb p k) p j))
      unfold NP at zt12
      rw [show mtC n tb (lnC n tb (pbC n tb (ltC n tb p m) p i) (pbC n tb (ltC n tb p k) p i)) (lnC n tb (pbC n tb (ltC n tb p m) p j) (pbC n tb (ltC n tb p k) p j)) = crC n tb (pbC n tb (ltC n tb p m) p i) (pbC n tb (ltC n tb p k) p i) (pbC n tb (ltC n tb p m) p j) (pbC n tb (ltC n tb p k) p j) from rfl] at zt12
      show m_Sem X 34 (157, [some (.inr (.inl 1)), some (.inl p), some (.inl l), some (.inl m), some (.inl k), some (.inl i), some (.inl j), some (.inl (ltC n tb p l)), some (.inl (ltC n tb p m)), some (.inl (ltC n tb p k)), some (.inl (pbC n tb (ltC n tb p l) p i)), some (.inl (pbC n tb (ltC n tb p m) p i)), some (.inl (pbC n tb (ltC n tb p k) p i)), some (.inl (pbC n tb (ltC n tb p l) p j)), some (.inl (pbC n tb (ltC n tb p m) p j)), some (.inl (pbC n tb (ltC n tb p k) p j))], [.inl (crC n tb (pbC n tb (ltC n tb p m) p i) (pbC n tb (ltC n tb p k) p i) (pbC n tb (ltC n tb p m) p j) (pbC n tb (ltC n tb p k) p j)), .inl (crC n tb (pbC n tb (ltC n tb p l) p i) (pbC n tb (ltC n tb p k) p i) (pbC n tb (ltC n tb p l) p j) (pbC n tb (ltC n tb p k) p j)), .inl (crC n tb (pbC n tb (ltC n tb p l) p i) (pbC n tb (ltC n tb p m) p i) (pbC n tb (ltC n tb p l) p j) (pbC n tb (ltC n tb p m) p j)), .inr (.inl 1)], mW (n, T, h, t, x) M, 0, 0) _
      refine m_callVF [.inl (crC n tb (pbC n tb (ltC n tb p l) p i) (pbC n tb (ltC n tb p m) p i) (pbC n tb (ltC n tb p l) p j) (pbC n tb (ltC n tb p m) p j)), .inl (crC n tb (pbC n tb (ltC n tb p l) p i) (pbC n tb (ltC n tb p k) p i) (pbC n tb (ltC n tb p l) p j) (pbC n tb (ltC n tb p k) p j)), .inl (crC n tb (pbC n tb (ltC n tb p m) p i) (pbC n tb (ltC n tb p k) p i) (pbC n tb (ltC n tb p m) p j) (pbC n tb (ltC n tb p k) p j))] [] rfl rfl ⟨_, rfl, rfl⟩ rfl rfl (k_ol (a := (crC n tb (pbC n tb (ltC n tb p l) p i) (pbC n tb (ltC n tb p m) p i) (pbC n tb (ltC n tb p l) p j) (pbC n tb (ltC n tb p m) p j))) (b := (crC n tb (pbC n tb (ltC n tb p l) p i) (pbC n tb (ltC n tb p k) p i) (pbC n tb (ltC n tb p l) p j) (pbC n tb (ltC n tb p k) p j))) (c := (crC n tb (pbC n tb (ltC n tb p m) p i) (pbC n tb (ltC n tb p k) p i) (pbC n tb (ltC n tb p m) p j) (pbC n tb (ltC n tb p k) p j))) hR ⟨by omega, by omega⟩ ⟨by omega, by omega⟩ ⟨by omega, by omega⟩) ?_
      show m_Sem X 34 (160, [some (.inr (.inl 1)), some (.inl p), some (.inl l), some (.inl m), some (.inl k), some (.inl i), some (.inl j), some (.inl (ltC n tb p l)), some (.inl (ltC n tb p m)), some (.inl (ltC n tb p k)), some (.inl (pbC n tb (ltC n tb p l) p i)), some (.inl (pbC n tb (ltC n tb p m) p i)), some (.inl (pbC n tb (ltC n tb p k) p i)), some (.inl (pbC n tb (ltC n tb p l) p j)), some (.inl (pbC n tb (ltC n tb p m) p j)), some (.inl (pbC n tb (ltC n tb p k) p j))], [.inl (bI (olC n tb (crC n tb (pbC n tb (ltC n tb p l) p i) (pbC n tb (ltC n tb p m) p i) (pbC n tb (ltC n tb p l) p j) (pbC n tb (ltC n tb p m) p j)) (crC n tb (pbC n tb (ltC n tb p l) p i) (pbC n tb (ltC n tb p k) p i) (pbC n tb (ltC n tb p l) p j) (pbC n tb (ltC n tb p k) p j)) (crC n tb (pbC n tb (ltC n tb p m) p i) (pbC n tb (ltC n tb p k) p i) (pbC n tb (ltC n tb p m) p j) (pbC n tb (ltC n tb p k) p j))))], mW (n, T, h, t, x) M, 0, 0) _
      refine m_if rfl (bI_R (olC n tb (crC n tb (pbC n tb (ltC n tb p l) p i) (pbC n tb (ltC n tb p m) p i) (pbC n tb (ltC n tb p l) p j) (pbC n tb (ltC n tb p m) p j)) (crC n tb (pbC n tb (ltC n tb p l) p i) (pbC n tb (ltC n tb p k) p i) (pbC n tb (ltC n tb p l) p j) (pbC n tb (ltC n tb p k) p j)) (crC n tb (pbC n tb (ltC n tb p m) p i) (pbC n tb (ltC n tb p k) p i) (pbC n tb (ltC n tb p m) p j) (pbC n tb (ltC n tb p k) p j)))) (fun (zc3 : (bI (olC n tb (crC n tb (pbC n tb (ltC n tb p l) p i) (pbC n tb (ltC n tb p m) p i) (pbC n tb (ltC n tb p l) p j) (pbC n tb (ltC n tb p m) p j)) (crC n tb (pbC n tb (ltC n tb p l) p i) (pbC n tb (ltC n tb p k) p i) (pbC n tb (ltC n tb p l) p j) (pbC n tb (ltC n tb p k) p j)) (crC n tb (pbC n tb (ltC n tb p m) p i) (pbC n tb (ltC n tb p k) p i) (pbC n tb (ltC n tb p m) p j) (pbC n tb (ltC n tb p k) p j)))) = 0) => ?_) (fun (zc3 : ¬ (bI (olC n tb (crC n tb (pbC n tb (ltC n tb p l) p i) (pbC n tb (ltC n tb p m) p i) (pbC n tb (ltC n tb p l) p j) (pbC n tb (ltC n tb p m) p j)) (crC n tb (pbC n tb (ltC n tb p l) p i) (pbC n tb (ltC n tb p k) p i) (pbC n tb (ltC n tb p l) p j) (pbC n tb (ltC n tb p k) p j)) (crC n tb (pbC n tb (ltC n tb p m) p i) (pbC n tb (ltC n tb p k) p i) (pbC n tb (ltC n tb p m) p j) (pbC n tb (ltC n tb p k) p j)))) = 0) => ?_)
      · replace zc3 : (olC n tb (crC n tb (pbC n tb (ltC n tb p l) p i) (pbC n tb (ltC n tb p m) p i) (pbC n tb (ltC n tb p l) p j) (pbC n tb (ltC n tb p m) p j)) (crC n tb (pbC n tb (ltC n tb p l) p i) (pbC n tb (ltC n tb p k) p i) (pbC n tb (ltC n tb p l) p j) (pbC n tb (ltC n tb p k) p j)) (crC n tb (pbC n tb (ltC n tb p m) p i) (pbC n tb (ltC n tb p k) p i) (pbC n tb (ltC n tb p m) p j) (pbC n tb (ltC n tb p k) p j))) = false := bI_e0.mp zc3
        refine m_run 1 (ps' := (168, [some (.inr (.inl 1)), some (.inl p), some (.inl l), some (.inl m), some (.inl k), some (.inl i), some (.inl j), some (.inl (ltC n tb p l)), some (.inl (ltC n tb p m)), some (.inl (ltC n tb p k)), some (.inl (pbC n tb (ltC n tb p l) p i)), some (.inl (pbC n tb (ltC n tb p m) p i)), some (.inl (pbC n tb (ltC n tb p k) p i)), some (.inl (pbC n tb (ltC n tb p l) p j)), some (.inl (pbC n tb (ltC n tb p m) p j)), some (.inl (pbC n tb (ltC n tb p k) p j))], [.inl 0], mW (n, T, h, t, x) M, 0, 0)) rfl ?_
        exact m_ret1 rfl (Or.inl rfl) rfl (m_Vi (by show _ = (if _ then _ else if _ then _ else _); simp [*, bI]))
      · replace zc3 : (olC n tb (crC n tb (pbC n tb (ltC n tb p l) p i) (pbC n tb (ltC n tb p m) p i) (pbC n tb (ltC n tb p l) p j) (pbC n tb (ltC n tb p m) p j)) (crC n tb (pbC n tb (ltC n tb p l) p i) (pbC n tb (ltC n tb p k) p i) (pbC n tb (ltC n tb p l) p j) (pbC n tb (ltC n tb p k) p j)) (crC n tb (pbC n tb (ltC n tb p m) p i) (pbC n tb (ltC n tb p k) p i) (pbC n tb (ltC n tb p m) p j) (pbC n tb (ltC n tb p k) p j))) = true := bI_n0.mp zc3
        refine m_run 2 (ps' := (168, [some (.inr (.inl 1)), some (.inl p), some (.inl l), some (.inl m), some (.inl k), some (.inl i), some (.inl j), some (.inl (ltC n tb p l)), some (.inl (ltC n tb p m)), some (.inl (ltC n tb p k)), some (.inl (pbC n tb (ltC n tb p l) p i)), some (.inl (pbC n tb (ltC n tb p m) p i)), some (.inl (pbC n tb (ltC n tb p k) p i)), some (.inl (pbC n tb (ltC n tb p l) p j)), some (.inl (pbC n tb (ltC n tb p m) p j)), some (.inl (pbC n tb (ltC n tb p k) p j))], [.inl 1], mW (n, T, h, t, x) M, 0, 0)) rfl ?_
        exact m_ret1 rfl (Or.inl rfl) rfl (m_Vi (by show _ = (if _ then _ else if _ then _ else _); simp [*, bI]))
    · replace zc2 : (olC n tb (pbC n tb (ltC n tb p l) p j) (pbC n tb (ltC n tb p m) p j) (pbC n tb (ltC n tb p k) p j)) = true := bI_n0.mp zc2
      refine m_run 1 (ps' := (119, [some (.inr (.inl 1)), some (.inl p), some (.inl l), some (.inl m), some (.inl k), some (.inl i), some (.inl j), some (.inl (ltC n tb p l)), some (.inl (ltC n tb p m)), some (.inl (ltC n tb p k)), some (.inl (pbC n tb (ltC n tb p l) p i)), some (.inl (pbC n tb (ltC n tb p m) p i)), some (.inl (pbC n tb (ltC n tb p k) p i)), some (.inl (pbC n tb (ltC n tb p l) p j)), some (.inl (pbC n tb (ltC n tb p m) p j)), some (.inl (pbC n tb (ltC n tb p k) p j))], [.inl (-1000002)], mW (n, T, h, t, x) M, 0, 0)) rfl ?_
      exact m_ret1 rfl (Or.inl rfl) rfl (m_Vi (by show _ = (if _ then _ else if _ then _ else _); simp [*]))
set_option maxHeartbeats 4000000 in
set_option maxRecDepth 100000 in
theorem k_hex {X : Nat × Nat × (Nat → Int32)} {n : Int} {T : Int → Int} {h : HS} {t : TS} {x : XS} {M : MS} {tb : Int → Int → Int} (hR : repC n T tb) {l m : Int} (hll : m_R l) (hm : m_R m) : m_Run X 35 [.inr (.inl 1), .inl l, .inl m] (mW (n, T, h, t, x) M) (m_V (bI (hexC n tb l m)) (mW (n, T, h, t, x) M)) := by
  have hn := hR.1
  have hl := okN_lo hn
  have hq := sq_b hn
  show m_Sem X 35 (0, [some (.inr (.inl 1)), some (.inl l), some (.inl m), none, none, none, none, none, none, none], [], mW (n, T, h, t, x) M, 0, 0) _
  refine m_run 3 (ps' := (3, [some (.inr (.inl 1)), some (.inl l), some (.inl m), none, none, none, none, none, none, none], [.inl m, .inl l, .inr (.inl 1)], mW (n, T, h, t, x) M, 0, 0)) rfl ?_
  refine m_callVF [.inl l, .inl m] [] rfl rfl ⟨_, rfl, rfl⟩ rfl rfl (k_mt (p := l) (q := m) hR hll hm) ?_
  have zt1 := mtC_in (n := n) (tb := tb) (p := l) (q := m)
  unfold NP at zt1
  show m_Sem X 35 (6, [some (.inr (.inl 1)), some (.inl l), some (.inl m), none, none, none, none, none, none, none], [.inl (mtC n tb l m)], mW (n, T, h, t, x) M, 0, 0) _
  refine m_run 5 (ps' := (11, [some (.inr (.inl 1)), some (.inl l), some (.inl m), some (.inl (mtC n tb l m)), none, none, none, none, none, none], [.inl 0, .inl (mtC n tb l m), .inl l, .inr (.inl 1)], mW (n, T, h, t, x) M, 0, 0)) rfl ?_
  refine m_callVF [.inl l, .inl (mtC n tb l m), .inl 0] [] rfl rfl ⟨_, rfl, rfl⟩ rfl rfl (k_pb (l := l) (o := (mtC n tb l m)) (i := 0) hR hll ⟨by omega, by omega⟩ ⟨by omega, by omega⟩ ⟨by omega, by omega⟩) ?_
  have zt2 := pbC_in (l := l) (o := (mtC n tb l m)) (i := 0) hn hR.tb
  unfold NP at zt2
  show m_Sem X 35 (14, [some (.inr (.inl 1)), some (.inl l), some (.inl m), some (.inl (mtC n tb l m)), none, none, none, none, none, none], [.inl (pbC n tb l (mtC n tb l m) 0)], mW (n, T, h, t, x) M, 0, 0) _
  refine m_run 5 (ps' := (20, [some (.inr (.inl 1)), some (.inl l), some (.inl m), some (.inl (mtC n tb l m)), some (.inl (pbC n tb l (mtC n tb l m) 0)), none, none, none, none, none], [.inl 1, .inl (mtC n tb l m), .inl l, .inr (.inl 1)], mW (n, T, h, t, x) M, 0, 0)) rfl ?_
  refine m_callVF [.inl l, .inl (mtC n tb l m), .inl 1] [] rfl rfl ⟨_, rfl, rfl⟩ rfl rfl (k_pb (l := l) (o := (mtC n tb l m)) (i := 1) hR hll ⟨by omega, by omega⟩ ⟨by omega, by omega⟩ ⟨by omega, by omega⟩) ?_
  have zt3 := pbC_in (l := l) (o := (mtC n tb l m)) (i := 1) hn hR.tb
  unfold NP at zt3
  show m_Sem X 35 (23, [some (.inr (.inl 1)), some (.inl l), some (.inl m), some (.inl (mtC n tb l m)), some (.inl (pbC n tb l (mtC n tb l m) 0)), none, none, none, none, none], [.inl (pbC n tb l (mtC n tb l m) 1)], mW (n, T, h, t, x) M, 0, 0) _
  refine m_run 5 (ps' := (29, [some (.inr (.inl 1)), some (.inl l), some (.inl m), some (.inl (mtC n tb l m)), some (.inl (pbC n tb l (mtC n tb l m) 0)), some (.inl (pbC n tb l (mtC n tb l m) 1)), none, none, none, none], [.inl 2, .inl (mtC n tb l m), .inl l, .inr (.inl 1)], mW (n, T, h, t, x) M, 0, 0)) rfl ?_
  refine m_callVF [.inl l, .inl (mtC n tb l m), .inl 2] [] rfl rfl ⟨_, rfl, rfl⟩ rfl rfl (k_pb (l := l) (o := (mtC n tb l m)) (i := 2) hR hll ⟨by omega, by omega⟩ ⟨by omega, by omega⟩ ⟨by omega, by omega⟩) ?_
  have zt4 := pbC_in (l := l) (o := (mtC n tb l m)) (i := 2) hn hR.tb
  unfold NP at zt4
  show m_Sem X 35 (32, [some (.inr (.inl 1)), some (.inl l), some (.inl m), some (.inl (mtC n tb l m)), some (.inl (pbC n tb l (mtC n tb l m) 0)), some (.inl (pbC n tb l (mtC n tb l m) 1)), none, none, none, none], [.inl (pbC n tb l (mtC n tb l m) 2)], mW (n, T, h, t, x) M, 0, 0) _
  refine m_run 5 (ps' := (38, [some (.inr (.inl 1)), some (.inl l), some (.inl m), some (.inl (mtC n tb l m)), some (.inl (pbC n tb l (mtC n tb l m) 0)), some (.inl (pbC n tb l (mtC n tb l m) 1)), some (.inl (pbC n tb l (mtC n tb l m) 2)), none, none, none], [.inl 0, .inl (mtC n tb l m), .inl m, .inr (.inl 1)], mW (n, T, h, t, x) M, 0, 0)) rfl ?_
  refine m_callVF [.inl m, .inl (mtC n tb l m), .inl 0] [] rfl rfl ⟨_, rfl, rfl⟩ rfl rfl (k_pb (l := m) (o := (mtC n tb l m)) (i := 0) hR hm ⟨by omega, by omega⟩ ⟨by omega, by omega⟩ ⟨by omega, by omega⟩) ?_
  have zt5 := pbC_in (l := m) (o := (mtC n tb l m)) (i := 0) hn hR.tb
  unfold NP at zt5
  show m_Sem X 35 (41, [some (.inr (.inl 1)), some (.inl l), some (.inl m), some (.inl (mtC n tb l m)), some (.inl (pbC n tb l (mtC n tb l m) 0)), some (.inl (pbC n tb l (mtC n tb l m) 1)), some (.inl (pbC n tb l (mtC n tb l m) 2)), none, none, none], [.inl (pbC n tb m (mtC n tb l m) 0)], mW (n, T, h, t, x) M, 0, 0) _
  refine m_run 5 (ps' := (47, [some (.inr (.inl 1)), some (.inl l), some (.inl m), some (.inl (mtC n tb l m)), some (.inl (pbC n tb l (mtC n tb l m) 0)), some (.inl (pbC n tb l (mtC n tb l m) 1)), some (.inl (pbC n tb l (mtC n tb l m) 2)), some (.inl (pbC n tb m (mtC n tb l m) 0)), none, none], [.inl 1, .inl (mtC n tb l m), .inl m, .inr (.inl 1)], mW (n, T, h, t, x) M, 0, 0)) rfl ?_
  refine m_callVF [.inl m, .inl (mtC n tb l m), .inl 1] [] rfl rfl ⟨_, rfl, rfl⟩ rfl rfl (k_pb (l := m) (o := (mtC n tb l m)) (i := 1) hR hm ⟨by omega, by omega⟩ ⟨by omega, by omega⟩ ⟨by omega, by omega⟩) ?_
  have zt6 := pbC_in (l := m) (o := (mtC n tb l m)) (i := 1) hn hR.tb
  unfold NP at zt6
  show m_Sem X 35 (50, [some (.inr (.inl 1)), some (.inl l), some (.inl m), some (.inl (mtC n tb l m)), some (.inl (pbC n tb l (mtC n tb l m) 0)), some (.inl (pbC n tb l (mtC n tb l m) 1)), some (.inl (pbC n tb l (mtC n tb l m) 2)), some (.inl (pbC n tb m (mtC n tb l m) 0)), none, none], [.inl (pbC n tb m (mtC n tb l m) 1)], mW (n, T, h, t, x) M, 0, 0) _
  refine m_run 5 (ps' := (56, [some (.inr (.inl 1)), some (.inl l), some (.inl m), some (.inl (mtC n tb l m)), some (.inl (pbC n tb l (mtC n tb l m) 0)), some (.inl (pbC n tb l (mtC n tb l m) 1)), some (.inl (pbC n tb l (mtC n tb l m) 2)), some (.inl (pbC n tb m (mtC n tb l m) 0)), some (.inl (pbC n tb m (mtC n tb l m) 1)), none], [.inl 2, .inl (mtC n tb l m), .inl m, .inr (.inl 1)], mW (n, T, h, t, x) M, 0, 0)) rfl ?_
  refine m_callVF [.inl m, .inl (mtC n tb l m), .inl 2] [] rfl rfl ⟨_, rfl, rfl⟩ rfl rfl (k_pb (l := m) (o := (mtC n tb l m)) (i := 2) hR hm ⟨by omega, by omega⟩ ⟨by omega, by omega⟩ ⟨by omega, by omega⟩) ?_
  have zt7 := pbC_in (l := m) (o := (mtC n tb l m)) (i := 2) hn hR.tb
  unfold NP at zt7
  show m_Sem X 35 (59, [some (.inr (.inl 1)), some (.inl l), some (.inl m), some (.inl (mtC n tb l m)), some (.inl (pbC n tb l (mtC n tb l m) 0)), some (.inl (pbC n tb l (mtC n tb l m) 1)), some (.inl (pbC n tb l (mtC n tb l m) 2)), some (.inl (pbC n tb m (mtC n tb l m) 0)), some (.inl (pbC n tb m (mtC n tb l m) 1)), none], [.inl (pbC n tb m (mtC n tb l m) 2)], mW (n, T, h, t, x) M, 0, 0) _
  refine m_run 7 (ps' := (71, [some (.inr (.inl 1)), some (.inl l), some (.inl m), some (.inl (mtC n tb l m)), some (.inl (pbC n tb l (mtC n tb l m) 0)), some (.inl (pbC n tb l (mtC n tb l m) 1)), some (.inl (pbC n tb l (mtC n tb l m) 2)), some (.inl (pbC n tb m (mtC n tb l m) 0)), some (.inl (pbC n tb m (mtC n tb l m) 1)), some (.inl (pbC n tb m (mtC n tb l m) 2))], [.inl (pbC n tb m (mtC n tb l m) 0), .inl (pbC n tb l (mtC n tb l m) 1), .inl (pbC n tb m (mtC n tb l m) 1), .inl (pbC n tb l (mtC n tb l m) 0), .inr (.inl 1), .inr (.inl 1)], mW (n, T, h, t, x) M, 0, 0)) rfl ?_
  refine m_callVF [.inl (pbC n tb l (mtC n tb l m) 0), .inl (pbC n tb m (mtC n tb l m) 1), .inl (pbC n tb l (mtC n tb l m) 1), .inl (pbC n tb m (mtC n tb l m) 0)] [.inr (.inl 1)] rfl rfl ⟨_, rfl, rfl⟩ rfl rfl (k_cr (a := (pbC n tb l (mtC n tb l m) 0)) (b := (pbC n tb m (mtC n tb l m) 1)) (c := (pbC n tb l (mtC n tb l m) 1)) (d := (pbC n tb m (mtC n tb l m) 0)) hR ⟨by omega, by omega⟩ ⟨by omega, by omega⟩ ⟨by omega, by omega⟩ ⟨by omega, by omega⟩) ?_
  have zt8 := mtC_in (n := n) (tb := tb) (p := lnC n tb (pbC n tb l (mtC n tb l m) 0) (pbC n tb m (mtC n tb l m) 1)) (q := lnC n tb (pbC n tb l (mtC n tb l m) 1) (pbC n tb m (mtC n tb l m) 0))
  unfold NP at zt8
  rw [show mtC n tb (lnC n tb (pbC n tb l (mtC n tb l m) 0) (pbC n tb m (mtC n tb l m) 1)) (lnC n tb (pbC n tb l (mtC n tb l m) 1) (pbC n tb m (mtC n tb l m) 0)) = crC n tb (pbC n tb l (mtC n tb l m) 0) (pbC n tb m (mtC n tb l m) 1) (pbC n tb l (mtC n tb l m) 1) (pbC n tb m (mtC n tb l m) 0) from rfl] at zt8
  show m_Sem X 35 (74, [some (.inr (.inl 1)), some (.inl l), some (.inl m), some (.inl (mtC n tb l m)), some (.inl (pbC n tb l (mtC n tb l m) 0)), some (.inl (pbC n tb l (mtC n tb l m) 1)), some (.inl (pbC n tb l (mtC n tb l m) 2)), some (.inl (pbC n tb m (mtC n tb l m) 0)), some (.inl (pbC n tb m (mtC n tb l m) 1)), some (.inl (pbC n tb m (mtC n tb l m) 2))], [.inl (crC n tb (pbC n tb l (mtC n tb l m) 0) (pbC n tb m (mtC n tb l m) 1) (pbC n tb l (mtC n tb l m) 1) (pbC n tb m (mtC n tb l m) 0)), .inr (.inl 1)], mW (n, T, h, t, x) M, 0, 0) _
  refine m_run 5 (ps' := (83, [some (.inr (.inl 1)), some (.inl l), some (.inl m), some (.inl (mtC n tb l m)), some (.inl (pbC n tb l (mtC n tb l m) 0)), some (.inl (pbC n tb l (mtC n tb l m) 1)), some (.inl (pbC n tb l (mtC n tb l m) 2)), some (.inl (pbC n tb m (mtC n tb l m) 0)), some (.inl (pbC n tb m (mtC n tb l m) 1)), some (.inl (pbC n tb m (mtC n tb l m) 2))], [.inl (pbC n tb m (mtC n tb l m) 0), .inl (pbC n tb l (mtC n tb l m) 2), .inl (pbC n tb m (mtC n tb l m) 2), .inl (pbC n tb l (mtC n tb l m) 0), .inr (.inl 1), .inl (crC n tb (pbC n tb l (mtC n tb l m) 0) (pbC n tb m (mtC n tb l m) 1) (pbC n tb l (mtC n tb l m) 1) (pbC n tb m (mtC n tb l m) 0)), .inr (.inl 1)], mW (n, T, h, t, x) M, 0, 0)) rfl ?_
  refine m_callVF [.inl (pbC n tb l (mtC n tb l m) 0), .inl (pbC n tb m (mtC n tb l m) 2), .inl (pbC n tb l (mtC n tb l m) 2), .inl (pbC n tb m (mtC n tb l m) 0)] [.inl (crC n tb (pbC n tb l (mtC n tb l m) 0) (pbC n tb m (mtC n tb l m) 1) (pbC n tb l (mtC n tb l m) 1) (pbC n tb m (mtC n tb l m) 0)), .inr (.inl 1)] rfl rfl ⟨_, rfl, rfl⟩ rfl rfl (k_cr (a := (pbC n tb l (mtC n tb l m) 0)) (b := (pbC n tb m (mtC n tb l m) 2)) (c := (pbC n tb l (mtC n tb l m) 2)) (d := (pbC n tb m (mtC n tb l m) 0)) hR ⟨by omega, by omega⟩ ⟨by omega, by omega⟩ ⟨by omega, by omega⟩ ⟨by omega, by omega⟩) ?_
  have zt9 := mtC_in (n := n) (tb := tb) (p := lnC n tb (pbC n tb l (mtC n tb l m) 0) (pbC n tb m (mtC n tb l m) 2)) (q := lnC n tb (pbC n tb l (mtC n tb l m) 2) (pbC n tb m (mtC n tb l m) 0))
  unfold NP at zt9
  rw [show mtC n tb (lnC n tb (pbC n tb l (mtC n tb l m) 0) (pbC n tb m (mtC n tb l m) 2)) (lnC n tb (pbC n tb l (mtC n tb l m) 2) (pbC n tb m (mtC n tb l m) 0)) = crC n tb (pbC n tb l (mtC n tb l m) 0) (pbC n tb m (mtC n tb l m) 2) (pbC n tb l (mtC n tb l m) 2) (pbC n tb m (mtC n tb l m) 0) from rfl] at zt9
  show m_Sem X 35 (86, [some (.inr (.inl 1)), some (.inl l), some (.inl m), some (.inl (mtC n tb l m)), some (.inl (pbC n tb l (mtC n tb l m) 0)), some (.inl (pbC n tb l (mtC n tb l m) 1)), some (.inl (pbC n tb l (mtC n tb l m) 2)), some (.inl (pbC n tb m (mtC n tb l m) 0)), some (.inl (pbC n tb m (mtC n tb l m) 1)), some (.inl (pbC n tb m (mtC n tb l m) 2))], [.inl (crC n tb (pbC n tb l (mtC n tb l m) 0) (pbC n tb m (mtC n tb l m) 2) (pbC n tb l (mtC n tb l m) 2) (pbC n tb m (mtC n tb l m) 0)), .inl (crC n tb (pbC n tb l (mtC n tb l m) 0) (pbC n tb m (mtC n tb l m) 1) (pbC n tb l (mtC n tb l m) 1) (pbC n tb m (mtC n tb l m) 0)), .inr (.inl 1)], mW (n, T, h, t, x) M, 0, 0) _
  refine m_run 5 (ps' := (95, [some (.inr (.inl 1)), some (.inl l), some (.inl m), some (.inl (mtC n tb l m)), some (.inl (pbC n tb l (mtC n tb l m) 0)), some (.inl (pbC n tb l (mtC n tb l m) 1)), some (.inl (pbC n tb l (mtC n tb l m) 2)), some (.inl (pbC n tb m (mtC n tb l m) 0)), some (.inl (pbC n tb m (mtC n tb l m) 1)), some (.inl (pbC n tb m (mtC n tb l m) 2))], [.inl (pbC n tb m (mtC n tb l m) 1), .inl (pbC n tb l (mtC n tb l m) 2), .inl (pbC n tb m (mtC n tb l m) 2), .inl (pbC n tb l (mtC n tb l m) 1), .inr (.inl 1), .inl (crC n tb (pbC n tb l (mtC n tb l m) 0) (pbC n tb m (mtC n tb l m) 2) (pbC n tb l (mtC n tb l m) 2) (pbC n tb m (mtC n tb l m) 0)), .inl (crC n tb (pbC n tb l (mtC n tb l m) 0) (pbC n tb m (mtC n tb l m) 1) (pbC n tb l (mtC n tb l m) 1) (pbC n tb m (mtC n tb l m) 0)), .inr (.inl 1)], mW (n, T, h, t, x) M, 0, 0)) rfl ?_
  refine m_callVF [.inl (pbC n tb l (mtC n tb l m) 1), .inl (pbC n tb m (mtC n tb l m) 2), .inl (pbC n tb l (mtC n tb l m) 2), .inl (pbC n tb m (mtC n tb l m) 1)] [.inl (crC n tb (pbC n tb l (mtC n tb l m) 0) (pbC n tb m (mtC n tb l m) 2) (pbC n tb l (mtC n tb l m) 2) (pbC n tb m (mtC n tb l m) 0)), .inl (crC n tb (pbC n tb l (mtC n tb l m) 0) (pbC n tb m (mtC n tb l m) 1) (pbC n tb l (mtC n tb l m) 1) (pbC n tb m (mtC n tb l m) 0)), .inr (.inl 1)] rfl rfl ⟨_, rfl, rfl⟩ rfl rfl (k_cr (a := (pbC n tb l (mtC n tb l m) 1)) (b := (pbC n tb m (mtC n tb l m) 2)) (c := (pbC n tb l (mtC n tb l m) 2)) (d := (pbC n tb m (mtC n tb l m) 1)) hR ⟨by omega, by omega⟩ ⟨by omega, by omega⟩ ⟨by omega, by omega⟩ ⟨by omega, by omega⟩) ?_
  have zt10 := mtC_in (n := n) (tb := tb) (p := lnC n tb (pbC n tb l (mtC n tb l m) 1) (pbC n tb m (mtC n tb l m) 2)) (q := lnC n tb (pbC n tb l (mtC n tb l m) 2) (pbC n tb m (mtC n tb l m) 1))
  unfold NP at zt10
  rw [show mtC n tb (lnC n tb (pbC n tb l (mtC n tb l m) 1) (pbC n tb m (mtC n tb l m) 2)) (lnC n tb (pbC n tb l (mtC n tb l m) 2) (pbC n tb m (mtC n tb l m) 1)) = crC n tb (pbC n tb l (mtC n tb l m) 1) (pbC n tb m (mtC n tb l m) 2) (pbC n tb l (mtC n tb l m) 2) (pbC n tb m (mtC n tb l m) 1) from rfl] at zt10
  show m_Sem X 35 (98, [some (.inr (.inl 1)), some (.inl l), some (.inl m), some (.inl (mtC n tb l m)), some (.inl (pbC n tb l (mtC n tb l m) 0)), some (.inl (pbC n tb l (mtC n tb l m) 1)), some (.inl (pbC n tb l (mtC n tb l m) 2)), some (.inl (pbC n tb m (mtC n tb l m) 0)), some (.inl (pbC n tb m (mtC n tb l m) 1)), some (.inl (pbC n tb m (mtC n tb l m) 2))], [.inl (crC n tb (pbC n tb l (mtC n tb l m) 1) (pbC n tb m (mtC n tb l m) 2) (pbC n tb l (mtC n tb l m) 2) (pbC n tb m (mtC n tb l m) 1)), .inl (crC n tb (pbC n tb l (mtC n tb l m) 0) (pbC n tb m (mtC n tb l m) 2) (pbC n tb l (mtC n tb l m) 2) (pbC n tb m (mtC n tb l m) 0)), .inl (crC n tb (pbC n tb l (mtC n tb l m) 0) (pbC n tb m (mtC n tb l m) 1) (pbC n tb l (mtC n tb l m) 1) (pbC n tb m (mtC n tb l m) 0)), .inr (.inl 1)], mW (n, T, h, t, x) M, 0, 0) _
  refine m_callVF [.inl (crC n tb (pbC n tb l (mtC n tb l m) 0) (pbC n tb m (mtC n tb l m) 1) (pbC n tb l (mtC n tb l m) 1) (pbC n tb m (mtC n tb l m) 0)), .inl (crC n tb (pbC n tb l (mtC n tb l m) 0) (pbC n tb m (mtC n tb l m) 2) (pbC n tb l (mtC n tb l m) 2) (pbC n tb m (mtC n tb l m) 0)), .inl (crC n tb (pbC n tb l (mtC n tb l m) 1) (pbC n tb m (mtC n tb l m) 2) (pbC n tb l (mtC n tb l m) 2) (pbC n tb m (mtC n tb l m) 1))] [] rfl rfl ⟨_, rfl, rfl⟩ rfl rfl (k_ol (a := (crC n tb (pbC n tb l (mtC n tb l m) 0) (pbC n tb m (mtC n tb l m) 1) (pbC n tb l (mtC n tb l m) 1) (pbC n tb m (mtC n tb l m) 0))) (b := (crC n tb (pbC n tb l (mtC n tb l m) 0) (pbC n tb m (mtC n tb l m) 2) (pbC n tb l (mtC n tb l m) 2) (pbC n tb m (mtC n tb l m) 0))) (c := (crC n tb (pbC n tb l (mtC n tb l m) 1) (pbC n tb m (mtC n tb l m) 2) (pbC n tb l (mtC n tb l m) 2) (pbC n tb m (mtC n tb l m) 1))) hR ⟨by omega, by omega⟩ ⟨by omega, by omega⟩ ⟨by omega, by omega⟩) ?_
  show m_Sem X 35 (101, [some (.inr (.inl 1)), some (.inl l), some (.inl m), some (.inl (mtC n tb l m)), some (.inl (pbC n tb l (mtC n tb l m) 0)), some (.inl (pbC n tb l (mtC n tb l m) 1)), some (.inl (pbC n tb l (mtC n tb l m) 2)), some (.inl (pbC n tb m (mtC n tb l m) 0)), some (.inl (pbC n tb m (mtC n tb l m) 1)), some (.inl (pbC n tb m (mtC n tb l m) 2))], [.inl (bI (olC n tb (crC n tb (pbC n tb l (mtC n tb l m) 0) (pbC n tb m (mtC n tb l m) 1) (pbC n tb l (mtC n tb l m) 1) (pbC n tb m (mtC n tb l m) 0)) (crC n tb (pbC n tb l (mtC n tb l m) 0) (pbC n tb m (mtC n tb l m) 2) (pbC n tb l (mtC n tb l m) 2) (pbC n tb m (mtC n tb l m) 0)) (crC n tb (pbC n tb l (mtC n tb l m) 1) (pbC n tb m (mtC n tb l m) 2) (pbC n tb l (mtC n tb l m) 2) (pbC n tb m (mtC n tb l m) 1))))], mW (n, T, h, t, x) M, 0, 0) _
  exact m_ret1 rfl (Or.inr ⟨rfl, bI_01 (olC n tb (crC n tb (pbC n tb l (mtC n tb l m) 0) (pbC n tb m (mtC n tb l m) 1) (pbC n tb l (mtC n tb l m) 1) (pbC n tb m (mtC n tb l m) 0)) (crC n tb (pbC n tb l (mtC n tb l m) 0) (pbC n tb m (mtC n tb l m) 2) (pbC n tb l (mtC n tb l m) 2) (pbC n tb m (mtC n tb l m) 0)) (crC n tb (pbC n tb l (mtC n tb l m) 1) (pbC n tb m (mtC n tb l m) 2) (pbC n tb l (mtC n tb l m) 2) (pbC n tb m (mtC n tb l m) 1)))⟩) rfl (m_Vb rfl)
end
section
def dropH (h : HS) : HS := (3, m_cpy h.2.1 h.2.1 1 0 3, m_cpy h.2.2 h.2.2 81 0 (3 * 81))
def pushH (n : Int) (T : Int → Int) (h : HS) : HS := (h.1 + 1, m_up h.2.1 h.1 n, m_cpy T h.2.2 0 (h.1 * 81) 81)
def keepH (n : Int) (T : Int → Int) (h : HS) : HS := if h.1 = 4 then pushH n T (dropH h) else pushH n T h
set_option maxHeartbeats 4000000 in
set_option maxRecDepth 100000 in
theorem k_drop {X : Nat × Nat × (Nat → Int32)} {n : Int} {T : Int → Int} {hc : Int} {hs hp : Int → Int} {t : TS} {x : XS} {M : MS} : m_Run X 4 [.inr (.inl 4)] (mW (n, T, (hc, hs, hp), t, x) M) (m_U (mW (n, T, dropH (hc, hs, hp), t, x) M)) := by
  show m_Sem X 4 (0, [some (.inr (.inl 4)), none], [], mW (n, T, (hc, hs, hp), t, x) M, 0, 0) _
  refine m_run 9 (ps' := (13, [some (.inr (.inl 4)), some (.inl 3)], [.inl 3, .inl 0, .inr (.inl 5), .inl 1, .inr (.inl 5)], mW (n, T, (hc, hs, hp), t, x) M, 0, 0)) rfl ?_
  refine m_acp rfl rfl rfl (by omega) (by omega) (by omega) (by omega) (by omega) (by decide) (by decide) rfl rfl ?_
  show m_Sem X 4 (16, [some (.inr (.inl 4)), some (.inl 3)], [], mW (n, T, (hc, (m_cpy hs hs 1 0 3), hp), t, x) M, 0, 0) _
  refine m_run 9 (ps' := (31, [some (.inr (.inl 4)), some (.inl 3)], [.inl (3 * 81), .inl 0, .inr (.inl 6), .inl 81, .inr (.inl 6)], mW (n, T, (hc, (m_cpy hs hs 1 0 3), hp), t, x) M, 0, 0)) rfl ?_
  refine m_acp rfl rfl rfl (by omega) (by omega) (by omega) (by omega) (by omega) (by decide) (by decide) rfl rfl ?_
  show m_Sem X 4 (34, [some (.inr (.inl 4)), some (.inl 3)], [], mW (n, T, (hc, (m_cpy hs hs 1 0 3), (m_cpy hp hp 81 0 (3 * 81))), t, x) M, 0, 0) _
  refine m_run 3 (ps' := (39, [some (.inr (.inl 4)), some (.inl 3)], [], mW (n, T, (3, (m_cpy hs hs 1 0 3), (m_cpy hp hp 81 0 (3 * 81))), t, x) M, 0, 0)) rfl ?_
  exact m_ret0 rfl rfl rfl (⟨rfl, rfl⟩)
set_option maxHeartbeats 4000000 in
set_option maxRecDepth 100000 in
theorem k_keep {X : Nat × Nat × (Nat → Int32)} {n : Int} {T : Int → Int} {hc : Int} {hs hp : Int → Int} {t : TS} {x : XS} {M : MS} (hn : m_R n) (h1 : 0 ≤ hc) (h2 : hc ≤ 4) : m_Run X 2 [.inr (.inl 4), .inr (.inl 2)] (mW (n, T, (hc, hs, hp), t, x) M) (m_U (mW (n, T, keepH n T (hc, hs, hp), t, x) M)) := by
  show m_Sem X 2 (0, [some (.inr (.inl 4)), some (.inr (.inl 2))], [], mW (n, T, (hc, hs, hp), t, x) M, 0, 0) _
  refine m_run 3 (ps' := (5, [some (.inr (.inl 4)), some (.inr (.inl 2))], [.inl 4, .inl hc], mW (n, T, (hc, hs, hp), t, x) M, 0, 0)) rfl ?_
  refine m_icmp rfl ⟨by omega, by omega⟩ ⟨by omega, by omega⟩ (fun (zc1 : hc < 4) => ?_) (fun (zc1 : ¬ hc < 4) => ?_)
  · refine m_run 2 (ps' := (16, [some (.inr (.inl 4)), some (.inr (.inl 2))], [.inl hc], mW (n, T, (hc, hs, hp), t, x) M, 0, 0)) rfl ?_
    refine m_if rfl ⟨by omega, by omega⟩ (fun (zc2 : hc < 0) => absurd zc2 (by omega)) (fun (zc2 : ¬ hc < 0) => ?_)
    refine m_run 3 (ps' := (24, [some (.inr (.inl 4)), some (.inr (.inl 2))], [.inl 4, .inl hc], mW (n, T, (hc, hs, hp), t, x) M, 0, 0)) rfl ?_
    refine m_icmp rfl ⟨by omega, by omega⟩ ⟨by omega, by omega⟩ (fun (zc3 : 4 ≤ hc) => absurd zc3 (by omega)) (fun (zc3 : ¬ 4 ≤ hc) => ?_)
    refine m_run 6 (ps' := (39, [some (.inr (.inl 4)), some (.inr (.inl 2))], [.inl n, .inl hc, .inr (.inl 5)], mW (n, T, (hc, hs, hp), t, x) M, 0, 0)) rfl ?_
    refine m_iast rfl rfl (by omega) (by omega) (by decide) ?_
    show m_Sem X 2 (40, [some (.inr (.inl 4)), some (.inr (.inl 2))], [], mW (n, T, (hc, (m_up hs hc n), hp), t, x) M, 0, 0) _
    refine m_run 10 (ps' := (58, [some (.inr (.inl 4)), some (.inr (.inl 2))], [.inl 81, .inl (hc * 81), .inr (.inl 6), .inl 0, .inr (.inl 3)], mW (n, T, (hc, (m_up hs hc n), hp), t, x) M, 0, 0)) rfl ?_
    refine m_acp rfl rfl rfl (by omega) (by omega) (by omega) (by omega) (by omega) (by decide) (by decide) rfl rfl ?_
    show m_Sem X 2 (61, [some (.inr (.inl 4)), some (.inr (.inl 2))], [], mW (n, T, (hc, (m_up hs hc n), (m_cpy T hp 0 (hc * 81) 81)), t, x) M, 0, 0) _
    refine m_run 6 (ps' := (71, [some (.inr (.inl 4)), some (.inr (.inl 2))], [], mW (n, T, ((hc + 1), (m_up hs hc n), (m_cpy T hp 0 (hc * 81) 81)), t, x) M, 0, 0)) rfl ?_
    exact m_ret0 rfl rfl rfl (⟨rfl, by unfold keepH; (first | rw [if_pos (show hc = 4 by omega)] | rw [if_neg (show ¬ hc = 4 by omega)]) <;> rfl⟩)
  · refine m_run 1 (ps' := (9, [some (.inr (.inl 4)), some (.inr (.inl 2))], [.inr (.inl 4)], mW (n, T, (hc, hs, hp), t, x) M, 0, 0)) rfl ?_
    refine m_callVU [] [] rfl rfl ⟨_, rfl, rfl⟩ rfl rfl k_drop ?_
    show m_Sem X 2 (12, [some (.inr (.inl 4)), some (.inr (.inl 2))], [], mW (n, T, (3, (m_cpy hs hs 1 0 3), (m_cpy hp hp 81 0 (3 * 81))), t, x) M, 0, 0) _
    refine m_run 2 (ps' := (16, [some (.inr (.inl 4)), some (.inr (.inl 2))], [.inl 3], mW (n, T, (3, (m_cpy hs hs 1 0 3), (m_cpy hp hp 81 0 (3 * 81))), t, x) M, 0, 0)) rfl ?_
    refine m_if rfl ⟨by omega, by omega⟩ (fun (zc2 : 3 < 0) => absurd zc2 (by omega)) (fun (zc2 : ¬ 3 < 0) => ?_)
    refine m_run 3 (ps' := (24, [some (.inr (.inl 4)), some (.inr (.inl 2))], [.inl 4, .inl 3], mW (n, T, (3, (m_cpy hs hs 1 0 3), (m_cpy hp hp 81 0 (3 * 81))), t, x) M, 0, 0)) rfl ?_
    refine m_icmp rfl ⟨by omega, by omega⟩ ⟨by omega, by omega⟩ (fun (zc3 : 4 ≤ 3) => absurd zc3 (by omega)) (fun (zc3 : ¬ 4 ≤ 3) => ?_)
    refine m_run 6 (ps' := (39, [some (.inr (.inl 4)), some (.inr (.inl 2))], [.inl n, .inl 3, .inr (.inl 5)], mW (n, T, (3, (m_cpy hs hs 1 0 3), (m_cpy hp hp 81 0 (3 * 81))), t, x) M, 0, 0)) rfl ?_
    refine m_iast rfl rfl (by omega) (by omega) (by decide) ?_
    show m_Sem X 2 (40, [some (.inr (.inl 4)), some (.inr (.inl 2))], [], mW (n, T, (3, (m_up (m_cpy hs hs 1 0 3) 3 n), (m_cpy hp hp 81 0 (3 * 81))), t, x) M, 0, 0) _
    refine m_run 10 (ps' := (58, [some (.inr (.inl 4)), some (.inr (.inl 2))], [.inl 81, .inl (3 * 81), .inr (.inl 6), .inl 0, .inr (.inl 3)], mW (n, T, (3, (m_up (m_cpy hs hs 1 0 3) 3 n), (m_cpy hp hp 81 0 (3 * 81))), t, x) M, 0, 0)) rfl ?_
    refine m_acp rfl rfl rfl (by omega) (by omega) (by omega) (by omega) (by omega) (by decide) (by decide) rfl rfl ?_
    show m_Sem X 2 (61, [some (.inr (.inl 4)), some (.inr (.inl 2))], [], mW (n, T, (3, (m_up (m_cpy hs hs 1 0 3) 3 n), (m_cpy T (m_cpy hp hp 81 0 (3 * 81)) 0 (3 * 81) 81)), t, x) M, 0, 0) _
    refine m_run 6 (ps' := (71, [some (.inr (.inl 4)), some (.inr (.inl 2))], [], mW (n, T, ((3 + 1), (m_up (m_cpy hs hs 1 0 3) 3 n), (m_cpy T (m_cpy hp hp 81 0 (3 * 81)) 0 (3 * 81) 81)), t, x) M, 0, 0)) rfl ?_
    exact m_ret0 rfl rfl rfl (⟨rfl, by unfold keepH; (first | rw [if_pos (show hc = 4 by omega)] | rw [if_neg (show ¬ hc = 4 by omega)]) <;> rfl⟩)
def popT (T : Int → Int) (h : HS) : Int → Int := m_cpy h.2.2 T ((h.1 - 1) * 81) 0 81
set_option maxHeartbeats 4000000 in
set_option maxRecDepth 100000 in
theorem k_rest {X : Nat × Nat × (Nat → Int32)} {n : Int} {T : Int → Int} {hc : Int} {hs hp : Int → Int} {t : TS} {x : XS} {M : MS} (h1 : 1 ≤ hc) (h2 : hc ≤ 4) : m_Run X 3 [.inr (.inl 4), .inr (.inl 2)] (mW (n, T, (hc, hs, hp), t, x) M) (m_U (mW (hs (hc - 1), popT T (hc, hs, hp), (hc - 1, hs, hp), t, x) M)) := by
  show m_Sem X 3 (0, [some (.inr (.inl 4)), some (.inr (.inl 2))], [], mW (n, T, (hc, hs, hp), t, x) M, 0, 0) _
  refine m_run 2 (ps' := (4, [some (.inr (.inl 4)), some (.inr (.inl 2))], [.inl hc], mW (n, T, (hc, hs, hp), t, x) M, 0, 0)) rfl ?_
  refine m_if rfl ⟨by omega, by omega⟩ (fun (zc1 : hc ≤ 0) => absurd zc1 (by omega)) (fun (zc1 : ¬ hc ≤ 0) => ?_)
  refine m_run 3 (ps' := (12, [some (.inr (.inl 4)), some (.inr (.inl 2))], [.inl 4, .inl hc], mW (n, T, (hc, hs, hp), t, x) M, 0, 0)) rfl ?_
  refine m_icmp rfl ⟨by omega, by omega⟩ ⟨by omega, by omega⟩ (fun (zc2 : 4 < hc) => absurd zc2 (by omega)) (fun (zc2 : ¬ 4 < hc) => ?_)
  refine m_run 11 (ps' := (34, [some (.inr (.inl 4)), some (.inr (.inl 2))], [.inl (hc - 1), .inr (.inl 5), .inr (.inl 2)], mW (n, T, ((hc - 1), hs, hp), t, x) M, 0, 0)) rfl ?_
  refine m_iald rfl rfl (by omega) (by omega) (by decide) ?_
  refine m_run 11 (ps' := (56, [some (.inr (.inl 4)), some (.inr (.inl 2))], [.inl 81, .inl 0, .inr (.inl 3), .inl ((hc - 1) * 81), .inr (.inl 6)], mW ((hs (hc - 1)), T, ((hc - 1), hs, hp), t, x) M, 0, 0)) rfl ?_
  refine m_acp rfl rfl rfl (by omega) (by omega) (by omega) (by omega) (by omega) (by decide) (by decide) rfl rfl ?_
  show m_Sem X 3 (59, [some (.inr (.inl 4)), some (.inr (.inl 2))], [], mW ((hs (hc - 1)), (m_cpy hp T ((hc - 1) * 81) 0 81), ((hc - 1), hs, hp), t, x) M, 0, 0) _
  exact m_ret0 rfl rfl rfl (⟨rfl, rfl⟩)
def okS (ln : Int) (sg : Int → Int) : Prop := 0 ≤ ln ∧ ln ≤ 60 ∧ ∀ i, 0 ≤ i → i < 60 → 0 ≤ sg i ∧ sg i < 128
def sgS (ln : Int) (sg : Int → Int) (p : Int) : Int := if p < 0 then 0 else if ln ≤ p then 0 else sg p
def digS (ln : Int) (sg : Int → Int) (p : Int) : Int := if sgS ln sg p < 48 then -1 else if 57 < sgS ln sg p then -1 else sgS ln sg p - 48
theorem sgS_in {ln : Int} {sg : Int → Int} (h : okS ln sg) (p : Int) : 0 ≤ sgS ln sg p ∧ sgS ln sg p < 128 := by
  obtain ⟨h1, h2, h3⟩ := h
  unfold sgS
  split
  · omega
  · split
    · omega
    · exact h3 p (by omega) (by omega)
theorem digS_in {ln : Int} {sg : Int → Int} (p : Int) : -1 ≤ digS ln sg p ∧ digS ln sg p ≤ 9 := by
  unfold digS
  split
  · omega
  · split <;> omega
set_option maxHeartbeats 4000000 in
set_option maxRecDepth 100000 in
theorem k_app {X : Nat × Nat × (Nat → Int32)} {n : Int} {T : Int → Int} {h : HS} {ln : Int} {sg : Int → Int} {x : XS} {M : MS} {c : Int} (hS : okS ln sg) (hc : 0 ≤ c) (hc2 : c < 65536) : m_Run X 52 [.inr (.inl 7), .inl c] (mW (n, T, h, (ln, sg), x) M) (m_V (bI (decide (ln < 60))) (mW (n, T, h, (if ln < 60 then (ln + 1, m_up sg ln c) else (ln, sg)), x) M)) := by
  obtain ⟨hs1, hs2, hs3⟩ := id hS
  show m_Sem X 52 (0, [some (.inr (.inl 7)), some (.inl c)], [], mW (n, T, h, (ln, sg), x) M, 0, 0) _
  refine m_run 2 (ps' := (4, [some (.inr (.inl 7)), some (.inl c)], [.inl ln], mW (n, T, h, (ln, sg), x) M, 0, 0)) rfl ?_
  refine m_if rfl ⟨by omega, by omega⟩ (fun (zc1 : ln < 0) => absurd zc1 (by omega)) (fun (zc1 : ¬ ln < 0) => ?_)
  refine m_run 5 (ps' := (16, [some (.inr (.inl 7)), some (.inl c)], [.inl 60, .inl ln], mW (n, T, h, (ln, sg), x) M, 0, 0)) rfl ?_
  refine m_icmp rfl ⟨by omega, by omega⟩ ⟨by omega, by omega⟩ (fun (zc2 : ln < 60) => ?_) (fun (zc2 : ¬ ln < 60) => ?_)
  · refine m_run 5 (ps' := (30, [some (.inr (.inl 7)), some (.inl c)], [.inl c, .inl ln, .inr (.inl 8)], mW (n, T, h, (ln, sg), x) M, 0, 0)) rfl ?_
    refine m_cast rfl rfl (by omega) (by omega) (by decide) (by omega) (by omega) ?_
    show m_Sem X 52 (31, [some (.inr (.inl 7)), some (.inl c)], [], mW (n, T, h, (ln, (m_up sg ln c)), x) M, 0, 0) _
    refine m_run 7 (ps' := (42, [some (.inr (.inl 7)), some (.inl c)], [.inl 1], mW (n, T, h, ((ln + 1), (m_up sg ln c)), x) M, 0, 0)) rfl ?_
    exact m_ret1 rfl (Or.inr ⟨rfl, Or.inr rfl⟩) rfl (m_Vw (by rw [decide_eq_true (show ln < 60 by omega)]; rfl) (by rw [if_pos (show ln < 60 by omega)]))
  · refine m_run 1 (ps' := (20, [some (.inr (.inl 7)), some (.inl c)], [.inl 0], mW (n, T, h, (ln, sg), x) M, 0, 0)) rfl ?_
    exact m_ret1 rfl (Or.inr ⟨rfl, Or.inl rfl⟩) rfl (m_Vw (by rw [decide_eq_false (show ¬ ln < 60 by omega)]; rfl) (by rw [if_neg (show ¬ ln < 60 by omega)]))
set_option maxHeartbeats 4000000 in
set_option maxRecDepth 100000 in
theorem k_sg {X : Nat × Nat × (Nat → Int32)} {n : Int} {T : Int → Int} {h : HS} {ln : Int} {sg : Int → Int} {x : XS} {M : MS} {p : Int} (hS : okS ln sg) (hp : m_R p) : m_Run X 57 [.inr (.inl 7), .inl p] (mW (n, T, h, (ln, sg), x) M) (m_V (sgS ln sg p) (mW (n, T, h, (ln, sg), x) M)) := by
  obtain ⟨hs1, hs2, hs3⟩ := id hS
  show m_Sem X 57 (0, [some (.inr (.inl 7)), some (.inl p)], [], mW (n, T, h, (ln, sg), x) M, 0, 0) _
  refine m_run 1 (ps' := (1, [some (.inr (.inl 7)), some (.inl p)], [.inl p], mW (n, T, h, (ln, sg), x) M, 0, 0)) rfl ?_
  refine m_if rfl hp (fun (zc1 : p < 0) => ?_) (fun (zc1 : ¬ p < 0) => ?_)
  · refine m_run 1 (ps' := (31, [some (.inr (.inl 7)), some (.inl p)], [.inl 0], mW (n, T, h, (ln, sg), x) M, 0, 0)) rfl ?_
    exact m_ret1 rfl (Or.inl rfl) rfl (m_Vi (by unfold sgS; (repeat' split) <;> first | rfl | (exfalso; omega) | omega | simp_all))
  · refine m_run 3 (ps' := (9, [some (.inr (.inl 7)), some (.inl p)], [.inl ln, .inl p], mW (n, T, h, (ln, sg), x) M, 0, 0)) rfl ?_
    refine m_icmp rfl hp ⟨by omega, by omega⟩ (fun (zc2 : ln ≤ p) => ?_) (fun (zc2 : ¬ ln ≤ p) => ?_)
    · refine m_run 1 (ps' := (31, [some (.inr (.inl 7)), some (.inl p)], [.inl 0], mW (n, T, h, (ln, sg), x) M, 0, 0)) rfl ?_
      exact m_ret1 rfl (Or.inl rfl) rfl (m_Vi (by unfold sgS; (repeat' split) <;> first | rfl | (exfalso; omega) | omega | simp_all))
    · refine m_run 4 (ps' := (18, [some (.inr (.inl 7)), some (.inl p)], [.inl 60, .inl p], mW (n, T, h, (ln, sg), x) M, 0, 0)) rfl ?_
      refine m_icmp rfl hp ⟨by omega, by omega⟩ (fun (zc3 : 60 ≤ p) => absurd zc3 (by omega)) (fun (zc3 : ¬ 60 ≤ p) => ?_)
      refine m_run 3 (ps' := (26, [some (.inr (.inl 7)), some (.inl p)], [.inl p, .inr (.inl 8)], mW (n, T, h, (ln, sg), x) M, 0, 0)) rfl ?_
      refine m_cald rfl rfl (by omega) (by omega) (by decide) ?_
      refine m_run 1 (ps' := (31, [some (.inr (.inl 7)), some (.inl p)], [.inl (sg p)], mW (n, T, h, (ln, sg), x) M, 0, 0)) rfl ?_
      exact m_ret1 rfl (Or.inl rfl) rfl (m_Vi (by unfold sgS; (repeat' split) <;> first | rfl | (exfalso; omega) | omega | simp_all))
set_option maxHeartbeats 4000000 in
set_option maxRecDepth 100000 in
theorem k_dg {X : Nat × Nat × (Nat → Int32)} {n : Int} {T : Int → Int} {h : HS} {ln : Int} {sg : Int → Int} {x : XS} {M : MS} {p : Int} (hS : okS ln sg) (hp : m_R p) : m_Run X 56 [.inr (.inl 7), .inl p] (mW (n, T, h, (ln, sg), x) M) (m_V (digS ln sg p) (mW (n, T, h, (ln, sg), x) M)) := by
  obtain ⟨hs1, hs2, hs3⟩ := id hS
  show m_Sem X 56 (0, [some (.inr (.inl 7)), some (.inl p), none], [], mW (n, T, h, (ln, sg), x) M, 0, 0) _
  refine m_run 2 (ps' := (2, [some (.inr (.inl 7)), some (.inl p), none], [.inl p, .inr (.inl 7)], mW (n, T, h, (ln, sg), x) M, 0, 0)) rfl ?_
  refine m_callVF [.inl p] [] rfl rfl ⟨_, rfl, rfl⟩ rfl rfl (k_sg (p := p) hS hp) ?_
  have zt1 := sgS_in hS p
  show m_Sem X 56 (5, [some (.inr (.inl 7)), some (.inl p), none], [.inl (sgS ln sg p)], mW (n, T, h, (ln, sg), x) M, 0, 0) _
  refine m_run 3 (ps' := (9, [some (.inr (.inl 7)), some (.inl p), some (.inl (sgS ln sg p))], [.inl 48, .inl (sgS ln sg p)], mW (n, T, h, (ln, sg), x) M, 0, 0)) rfl ?_
  refine m_icmp rfl ⟨by omega, by omega⟩ ⟨by omega, by omega⟩ (fun (zc1 : (sgS ln sg p) < 48) => ?_) (fun (zc1 : ¬ (sgS ln sg p) < 48) => ?_)
  · refine m_run 1 (ps' := (26, [some (.inr (.inl 7)), some (.inl p), some (.inl (sgS ln sg p))], [.inl (-1)], mW (n, T, h, (ln, sg), x) M, 0, 0)) rfl ?_
    exact m_ret1 rfl (Or.inl rfl) rfl (m_Vi (by unfold digS; (repeat' split) <;> first | rfl | (exfalso; omega) | omega | simp_all))
  · refine m_run 2 (ps' := (15, [some (.inr (.inl 7)), some (.inl p), some (.inl (sgS ln sg p))], [.inl 57, .inl (sgS ln sg p)], mW (n, T, h, (ln, sg), x) M, 0, 0)) rfl ?_
    refine m_icmp rfl ⟨by omega, by omega⟩ ⟨by omega, by omega⟩ (fun (zc2 : 57 < (sgS ln sg p)) => ?_) (fun (zc2 : ¬ 57 < (sgS ln sg p)) => ?_)
    · refine m_run 1 (ps' := (26, [some (.inr (.inl 7)), some (.inl p), some (.inl (sgS ln sg p))], [.inl (-1)], mW (n, T, h, (ln, sg), x) M, 0, 0)) rfl ?_
      exact m_ret1 rfl (Or.inl rfl) rfl (m_Vi (by unfold digS; (repeat' split) <;> first | rfl | (exfalso; omega) | omega | simp_all))
    · refine m_run 4 (ps' := (26, [some (.inr (.inl 7)), some (.inl p), some (.inl (sgS ln sg p))], [.inl ((sgS ln sg p) - 48)], mW (n, T, h, (ln, sg), x) M, 0, 0)) rfl ?_
      exact m_ret1 rfl (Or.inl rfl) rfl (m_Vi (by unfold digS; (repeat' split) <;> first | rfl | (exfalso; omega) | omega | simp_all))
def formS (ln : Int) (sg : Int → Int) (s : Int) : Bool := (decide (digS ln sg s ≠ -1) && decide (digS ln sg (s + 2) ≠ -1) && decide (digS ln sg (s + 4) ≠ -1)) && (decide (sgS ln sg (s + 1) = 42) && decide (sgS ln sg (s + 3) = 61) && decide (sgS ln sg (s + 5) = 59))
def elemS (n ln : Int) (sg : Int → Int) (s : Int) : Bool := inN n (digS ln sg s) && inN n (digS ln sg (s + 2)) && inN n (digS ln sg (s + 4))
def reaS (n ln : Int) (sg : Int → Int) (s : Int) : Int := if formS ln sg s = false then 1 else if elemS n ln sg s = true then 0 else 2
theorem reaS_in (n ln : Int) (sg : Int → Int) (s : Int) : 0 ≤ reaS n ln sg s ∧ reaS n ln sg s ≤ 2 := by
  unfold reaS
  split
  · omega
  · split <;> omega
set_option maxHeartbeats 4000000 in
set_option maxRecDepth 100000 in
theorem k_rea {X : Nat × Nat × (Nat → Int32)} {n : Int} {T : Int → Int} {h : HS} {ln : Int} {sg : Int → Int} {x : XS} {M : MS} {s : Int} (hn : okN n) (hS : okS ln sg) (h1 : 0 ≤ s) (h2 : s ≤ 100) : m_Run X 54 [.inr (.inl 7), .inl s, .inr (.inl 2)] (mW (n, T, h, (ln, sg), x) M) (m_V (reaS n ln sg s) (mW (n, T, h, (ln, sg), x) M)) := by
  obtain ⟨hs1, hs2, hs3⟩ := id hS
  have hl := okN_lo hn
  show m_Sem X 54 (0, [some (.inr (.inl 7)), some (.inl s), some (.inr (.inl 2)), none, none, none, none], [], mW (n, T, h, (ln, sg), x) M, 0, 0) _
  refine m_run 2 (ps' := (2, [some (.inr (.inl 7)), some (.inl s), some (.inr (.inl 2)), none, none, none, none], [.inl s, .inr (.inl 7)], mW (n, T, h, (ln, sg), x) M, 0, 0)) rfl ?_
  refine m_callVF [.inl s] [] rfl rfl ⟨_, rfl, rfl⟩ rfl rfl (k_dg (p := s) hS ⟨by omega, by omega⟩) ?_
  have zt1 := digS_in (ln := ln) (sg := sg) s
  show m_Sem X 54 (5, [some (.inr (.inl 7)), some (.inl s), some (.inr (.inl 2)), none, none, none, none], [.inl (digS ln sg s)], mW (n, T, h, (ln, sg), x) M, 0, 0) _
  refine m_run 5 (ps' := (10, [some (.inr (.inl 7)), some (.inl s), some (.inr (.inl 2)), some (.inl (digS ln sg s)), none, none, none], [.inl (s + 2), .inr (.inl 7)], mW (n, T, h, (ln, sg), x) M, 0, 0)) rfl ?_
  refine m_callVF [.inl (s + 2)] [] rfl rfl ⟨_, rfl, rfl⟩ rfl rfl (k_dg (p := (s + 2)) hS ⟨by omega, by omega⟩) ?_
  have zt2 := digS_in (ln := ln) (sg := sg) (s + 2)
  show m_Sem X 54 (13, [some (.inr (.inl 7)), some (.inl s), some (.inr (.inl 2)), some (.inl (digS ln sg s)), none, none, none], [.inl (digS ln sg (s + 2))], mW (n, T, h, (ln, sg), x) M, 0, 0) _
  refine m_run 5 (ps' := (19, [some (.inr (.inl 7)), some (.inl s), some (.inr (.inl 2)), some (.inl (digS ln sg s)), some (.inl (digS ln sg (s + 2))), none, none], [.inl (s + 4), .inr (.inl 7)], mW (n, T, h, (ln, sg), x) M, 0, 0)) rfl ?_
  refine m_callVF [.inl (s + 4)] [] rfl rfl ⟨_, rfl, rfl⟩ rfl rfl (k_dg (p := (s + 4)) hS ⟨by omega, by omega⟩) ?_
  have zt3 := digS_in (ln := ln) (sg := sg) (s + 4)
  show m_Sem X 54 (22, [some (.inr (.inl 7)), some (.inl s), some (.inr (.inl 2)), some (.inl (digS ln sg s)), some (.inl (digS ln sg (s + 2))), none, none], [.inl (digS ln sg (s + 4))], mW (n, T, h, (ln, sg), x) M, 0, 0) _
  refine m_run 3 (ps' := (26, [some (.inr (.inl 7)), some (.inl s), some (.inr (.inl 2)), some (.inl (digS ln sg s)), some (.inl (digS ln sg (s + 2))), some (.inl (digS ln sg (s + 4))), none], [.inl (-1), .inl (digS ln sg s)], mW (n, T, h, (ln, sg), x) M, 0, 0)) rfl ?_
  refine m_icmp rfl ⟨by omega, by omega⟩ ⟨by omega, by omega⟩ (fun (zc1 : (digS ln sg s) = (-1)) => ?_) (fun (zc1 : ¬ (digS ln sg s) = (-1)) => ?_)
  · refine m_run 3 (ps' := (50, [some (.inr (.inl 7)), some (.inl s), some (.inr (.inl 2)), some (.inl (digS ln sg s)), some (.inl (digS ln sg (s + 2))), some (.inl (digS ln sg (s + 4))), some (.inl 0)], [.inl 0], mW (n, T, h, (ln, sg), x) M, 0, 0)) rfl ?_
    refine m_if rfl ⟨by omega, by omega⟩ (fun (zc2 : 0 = 0) => ?_) (fun (zc2 : ¬ 0 = 0) => absurd zc2 (not_not_intro (by omega)))
    refine m_run 1 (ps' := (90, [some (.inr (.inl 7)), some (.inl s), some (.inr (.inl 2)), some (.inl (digS ln sg s)), some (.inl (digS ln sg (s + 2))), some (.inl (digS ln sg (s + 4))), some (.inl 0)], [.inl 1], mW (n, T, h, (ln, sg), x) M, 0, 0)) rfl ?_
    exact m_ret1 rfl (Or.inl rfl) rfl (m_Vi (by unfold reaS; rw [if_pos (by unfold formS; simp [*])]))
  · refine m_run 2 (ps' := (32, [some (.inr (.inl 7)), some (.inl s), some (.inr (.inl 2)), some (.inl (digS ln sg s)), some (.inl (digS ln sg (s + 2))), some (.inl (digS ln sg (s + 4))), none], [.inl (-1), .inl (digS ln sg (s + 2))], mW (n, T, h, (ln, sg), x) M, 0, 0)) rfl ?_
    refine m_icmp rfl ⟨by omega, by omega⟩ ⟨by omega, by omega⟩ (fun (zc2 : (digS ln sg (s + 2)) = (-1)) => ?_) (fun (zc2 : ¬ (digS ln sg (s + 2)) = (-1)) => ?_)
    · refine m_run 3 (ps' := (50, [some (.inr (.inl 7)), some (.inl s), some (.inr (.inl 2)), some (.inl (digS ln sg s)), some (.inl (digS ln sg (s + 2))), some (.inl (digS ln sg (s + 4))), some (.inl 0)], [.inl 0], mW (n, T, h, (ln, sg), x) M, 0, 0)) rfl ?_
      refine m_if rfl ⟨by omega, by omega⟩ (fun (zc3 : 0 = 0) => ?_) (fun (zc3 : ¬ 0 = 0) => absurd zc3 (not_not_intro (by omega)))
      refine m_run 1 (ps' := (90, [some (.inr (.inl 7)), some (.inl s), some (.inr (.inl 2)), some (.inl (digS ln sg s)), some (.inl (digS ln sg (s + 2))), some (.inl (digS ln sg (s + 4))), some (.inl 0)], [.inl 1], mW (n, T, h, (ln, sg), x) M, 0, 0)) rfl ?_
      exact m_ret1 rfl (Or.inl rfl) rfl (m_Vi (by unfold reaS; rw [if_pos (by unfold formS; simp [*])]))
    · refine m_run 2 (ps' := (38, [some (.inr (.inl 7)), some (.inl s), some (.inr (.inl 2)), some (.inl (digS ln sg s)), some (.inl (digS ln sg (s + 2))), some (.inl (digS ln sg (s + 4))), none], [.inl (-1), .inl (digS ln sg (s + 4))], mW (n, T, h, (ln, sg), x) M, 0, 0)) rfl ?_
      refine m_icmp rfl ⟨by omega, by omega⟩ ⟨by omega, by omega⟩ (fun (zc3 : (digS ln sg (s + 4)) = (-1)) => ?_) (fun (zc3 : ¬ (digS ln sg (s + 4)) = (-1)) => ?_)
      · refine m_run 3 (ps' := (50, [some (.inr (.inl 7)), some (.inl s), some (.inr (.inl 2)), some (.inl (digS ln sg s)), some (.inl (digS ln sg (s + 2))), some (.inl (digS ln sg (s + 4))), some (.inl 0)], [.inl 0], mW (n, T, h, (ln, sg), x) M, 0, 0)) rfl ?_
        refine m_if rfl ⟨by omega, by omega⟩ (fun (zc4 : 0 = 0) => ?_) (fun (zc4 : ¬ 0 = 0) => absurd zc4 (not_not_intro (by omega)))
        refine m_run 1 (ps' := (90, [some (.inr (.inl 7)), some (.inl s), some (.inr (.inl 2)), some (.inl (digS ln sg s)), some (.inl (digS ln sg (s + 2))), some (.inl (digS ln sg (s + 4))), some (.inl 0)], [.inl 1], mW (n, T, h, (ln, sg), x) M, 0, 0)) rfl ?_
        exact m_ret1 rfl (Or.inl rfl) rfl (m_Vi (by unfold reaS; rw [if_pos (by unfold formS; simp [*])]))
      · refine m_run 4 (ps' := (50, [some (.inr (.inl 7)), some (.inl s), some (.inr (.inl 2)), some (.inl (digS ln sg s)), some (.inl (digS ln sg (s + 2))), some (.inl (digS ln sg (s + 4))), some (.inl 1)], [.inl 1], mW (n, T, h, (ln, sg), x) M, 0, 0)) rfl ?_
        refine m_if rfl ⟨by omega, by omega⟩ (fun (zc4 : 1 = 0) => absurd zc4 (by omega)) (fun (zc4 : ¬ 1 = 0) => ?_)
        refine m_run 4 (ps' := (57, [some (.inr (.inl 7)), some (.inl s), some (.inr (.inl 2)), some (.inl (digS ln sg s)), some (.inl (digS ln sg (s + 2))), some (.inl (digS ln sg (s + 4))), some (.inl 1)], [.inl (s + 1), .inr (.inl 7)], mW (n, T, h, (ln, sg), x) M, 0, 0)) rfl ?_
        refine m_callVF [.inl (s + 1)] [] rfl rfl ⟨_, rfl, rfl⟩ rfl rfl (k_sg (p := (s + 1)) hS ⟨by omega, by omega⟩) ?_
        have zt4 := sgS_in hS (s + 1)
        show m_Sem X 54 (60, [some (.inr (.inl 7)), some (.inl s), some (.inr (.inl 2)), some (.inl (digS ln sg s)), some (.inl (digS ln sg (s + 2))), some (.inl (digS ln sg (s + 4))), some (.inl 1)], [.inl (sgS ln sg (s + 1))], mW (n, T, h, (ln, sg), x) M, 0, 0) _
        refine m_run 1 (ps' := (62, [some (.inr (.inl 7)), some (.inl s), some (.inr (.inl 2)), some (.inl (digS ln sg s)), some (.inl (digS ln sg (s + 2))), some (.inl (digS ln sg (s + 4))), some (.inl 1)], [.inl 42, .inl (sgS ln sg (s + 1))], mW (n, T, h, (ln, sg), x) M, 0, 0)) rfl ?_
        refine m_icmp rfl ⟨by omega, by omega⟩ ⟨by omega, by omega⟩ (fun (zc5 : ¬ (sgS ln sg (s + 1)) = 42) => ?_) (fun (zc5 : ¬ ¬ (sgS ln sg (s + 1)) = 42) => ?_)
        · refine m_run 1 (ps' := (90, [some (.inr (.inl 7)), some (.inl s), some (.inr (.inl 2)), some (.inl (digS ln sg s)), some (.inl (digS ln sg (s + 2))), some (.inl (digS ln sg (s + 4))), some (.inl 1)], [.inl 1], mW (n, T, h, (ln, sg), x) M, 0, 0)) rfl ?_
          exact m_ret1 rfl (Or.inl rfl) rfl (m_Vi (by unfold reaS; rw [if_pos (by unfold formS; simp [*])]))
        · replace zc5 : (sgS ln sg (s + 1)) = 42 := Decidable.not_not.mp zc5
          refine m_run 4 (ps' := (69, [some (.inr (.inl 7)), some (.inl s), some (.inr (.inl 2)), some (.inl (digS ln sg s)), some (.inl (digS ln sg (s + 2))), some (.inl (digS ln sg (s + 4))), some (.inl 1)], [.inl (s + 3), .inr (.inl 7)], mW (n, T, h, (ln, sg), x) M, 0, 0)) rfl ?_
          refine m_callVF [.inl (s + 3)] [] rfl rfl ⟨_, rfl, rfl⟩ rfl rfl (k_sg (p := (s + 3)) hS ⟨by omega, by omega⟩) ?_
          have zt5 := sgS_in hS (s + 3)
          show m_Sem X 54 (72, [some (.inr (.inl 7)), some (.inl s), some (.inr (.inl 2)), some (.inl (digS ln sg s)), some (.inl (digS ln sg (s + 2))), some (.inl (digS ln sg (s + 4))), some (.inl 1)], [.inl (sgS ln sg (s + 3))], mW (n, T, h, (ln, sg), x) M, 0, 0) _
          refine m_run 1 (ps' := (74, [some (.inr (.inl 7)), some (.inl s), some (.inr (.inl 2)), some (.inl (digS ln sg s)), some (.inl (digS ln sg (s + 2))), some (.inl (digS ln sg (s + 4))), some (.inl 1)], [.inl 61, .inl (sgS ln sg (s + 3))], mW (n, T, h, (ln, sg), x) M, 0, 0)) rfl ?_
          refine m_icmp rfl ⟨by omega, by omega⟩ ⟨by omega, by omega⟩ (fun (zc6 : ¬ (sgS ln sg (s + 3)) = 61) => ?_) (fun (zc6 : ¬ ¬ (sgS ln sg (s + 3)) = 61) => ?_)
          · refine m_run 1 (ps' := (90, [some (.inr (.inl 7)), some (.inl s), some (.inr (.inl 2)), some (.inl (digS ln sg s)), some (.inl (digS ln sg (s + 2))), some (.inl (digS ln sg (s + 4))), some (.inl 1)], [.inl 1], mW (n, T, h, (ln, sg), x) M, 0, 0)) rfl ?_
            exact m_ret1 rfl (Or.inl rfl) rfl (m_Vi (by unfold reaS; rw [if_pos (by unfold formS; simp [*])]))
          · replace zc6 : (sgS ln sg (s + 3)) = 61 := Decidable.not_not.mp zc6
            refine m_run 4 (ps' := (81, [some (.inr (.inl 7)), some (.inl s), some (.inr (.inl 2)), some (.inl (digS ln sg s)), some (.inl (digS ln sg (s + 2))), some (.inl (digS ln sg (s + 4))), some (.inl 1)], [.inl (s + 5), .inr (.inl 7)], mW (n, T, h, (ln, sg), x) M, 0, 0)) rfl ?_
            refine m_callVF [.inl (s + 5)] [] rfl rfl ⟨_, rfl, rfl⟩ rfl rfl (k_sg (p := (s + 5)) hS ⟨by omega, by omega⟩) ?_
            have zt6 := sgS_in hS (s + 5)
            show m_Sem X 54 (84, [some (.inr (.inl 7)), some (.inl s), some (.inr (.inl 2)), some (.inl (digS ln sg s)), some (.inl (digS ln sg (s + 2))), some (.inl (digS ln sg (s + 4))), some (.inl 1)], [.inl (sgS ln sg (s + 5))], mW (n, T, h, (ln, sg), x) M, 0, 0) _
            refine m_run 1 (ps' := (86, [some (.inr (.inl 7)), some (.inl s), some (.inr (.inl 2)), some (.inl (digS ln sg s)), some (.inl (digS ln sg (s + 2))), some (.inl (digS ln sg (s + 4))), some (.inl 1)], [.inl 59, .inl (sgS ln sg (s + 5))], mW (n, T, h, (ln, sg), x) M, 0, 0)) rfl ?_
            refine m_icmp rfl ⟨by omega, by omega⟩ ⟨by omega, by omega⟩ (fun (zc7 : (sgS ln sg (s + 5)) = 59) => ?_) (fun (zc7 : ¬ (sgS ln sg (s + 5)) = 59) => ?_)
            · refine m_run 2 (ps' := (93, [some (.inr (.inl 7)), some (.inl s), some (.inr (.inl 2)), some (.inl (digS ln sg s)), some (.inl (digS ln sg (s + 2))), some (.inl (digS ln sg (s + 4))), some (.inl 1)], [.inl (digS ln sg s), .inr (.inl 2)], mW (n, T, h, (ln, sg), x) M, 0, 0)) rfl ?_
              refine m_callVF [.inl (digS ln sg s)] [] rfl rfl ⟨_, rfl, rfl⟩ rfl rfl (k_has (e := (digS ln sg s)) hn ⟨by omega, by omega⟩) ?_
              show m_Sem X 54 (96, [some (.inr (.inl 7)), some (.inl s), some (.inr (.inl 2)), some (.inl (digS ln sg s)), some (.inl (digS ln sg (s + 2))), some (.inl (digS ln sg (s + 4))), some (.inl 1)], [.inl (bI (inN n (digS ln sg s)))], mW (n, T, h, (ln, sg), x) M, 0, 0) _
              refine m_if rfl (bI_R (inN n (digS ln sg s))) (fun (zc8 : (bI (inN n (digS ln sg s))) = 0) => ?_) (fun (zc8 : ¬ (bI (inN n (digS ln sg s))) = 0) => ?_)
              · replace zc8 : (inN n (digS ln sg s)) = false := bI_e0.mp zc8
                refine m_run 1 (ps' := (122, [some (.inr (.inl 7)), some (.inl s), some (.inr (.inl 2)), some (.inl (digS ln sg s)), some (.inl (digS ln sg (s + 2))), some (.inl (digS ln sg (s + 4))), some (.inl 1)], [.inl 2], mW (n, T, h, (ln, sg), x) M, 0, 0)) rfl ?_
                exact m_ret1 rfl (Or.inl rfl) rfl (m_Vi (by unfold reaS; rw [if_neg (by unfold formS; simp [*]), if_neg (by unfold elemS; simp [*])]))
              · replace zc8 : (inN n (digS ln sg s)) = true := bI_n0.mp zc8
                have zi1 := inN_i.mp zc8
                refine m_run 2 (ps' := (102, [some (.inr (.inl 7)), some (.inl s), some (.inr (.inl 2)), some (.inl (digS ln sg s)), some (.inl (digS ln sg (s + 2))), some (.inl (digS ln sg (s + 4))), some (.inl 1)], [.inl (digS ln sg (s + 2)), .inr (.inl 2)], mW (n, T, h, (ln, sg), x) M, 0, 0)) rfl ?_
                refine m_callVF [.inl (digS ln sg (s + 2))] [] rfl rfl ⟨_, rfl, rfl⟩ rfl rfl (k_has (e := (digS ln sg (s + 2))) hn ⟨by omega, by omega⟩) ?_
                show m_Sem X 54 (105, [some (.inr (.inl 7)), some (.inl s), some (.inr (.inl 2)), some (.inl (digS ln sg s)), some (.inl (digS ln sg (s + 2))), some (.inl (digS ln sg (s + 4))), some (.inl 1)], [.inl (bI (inN n (digS ln sg (s + 2))))], mW (n, T, h, (ln, sg), x) M, 0, 0) _
                refine m_if rfl (bI_R (inN n (digS ln sg (s + 2)))) (fun (zc9 : (bI (inN n (digS ln sg (s + 2)))) = 0) => ?_) (fun (zc9 : ¬ (bI (inN n (digS ln sg (s + 2)))) = 0) => ?_)
                · replace zc9 : (inN n (digS ln sg (s + 2))) = false := bI_e0.mp zc9
                  refine m_run 1 (ps' := (122, [some (.inr (.inl 7)), some (.inl s), some (.inr (.inl 2)), some (.inl (digS ln sg s)), some (.inl (digS ln sg (s + 2))), some (.inl (digS ln sg (s + 4))), some (.inl 1)], [.inl 2], mW (n, T, h, (ln, sg), x) M, 0, 0)) rfl ?_
                  exact m_ret1 rfl (Or.inl rfl) rfl (m_Vi (by unfold reaS; rw [if_neg (by unfold formS; simp [*]), if_neg (by unfold elemS; simp [*])]))
                · replace zc9 : (inN n (digS ln sg (s + 2))) = true := bI_n0.mp zc9
                  have zi2 := inN_i.mp zc9
                  refine m_run 2 (ps' := (111, [some (.inr (.inl 7)), some (.inl s), some (.inr (.inl 2)), some (.inl (digS ln sg s)), some (.inl (digS ln sg (s + 2))), some (.inl (digS ln sg (s + 4))), some (.inl 1)], [.inl (digS ln sg (s + 4)), .inr (.inl 2)], mW (n, T, h, (ln, sg), x) M, 0, 0)) rfl ?_
                  refine m_callVF [.inl (digS ln sg (s + 4))] [] rfl rfl ⟨_, rfl, rfl⟩ rfl rfl (k_has (e := (digS ln sg (s + 4))) hn ⟨by omega, by omega⟩) ?_
                  show m_Sem X 54 (114, [some (.inr (.inl 7)), some (.inl s), some (.inr (.inl 2)), some (.inl (digS ln sg s)), some (.inl (digS ln sg (s + 2))), some (.inl (digS ln sg (s + 4))), some (.inl 1)], [.inl (bI (inN n (digS ln sg (s + 4))))], mW (n, T, h, (ln, sg), x) M, 0, 0) _
                  refine m_if rfl (bI_R (inN n (digS ln sg (s + 4)))) (fun (zc10 : (bI (inN n (digS ln sg (s + 4)))) = 0) => ?_) (fun (zc10 : ¬ (bI (inN n (digS ln sg (s + 4)))) = 0) => ?_)
                  · replace zc10 : (inN n (digS ln sg (s + 4))) = false := bI_e0.mp zc10
                    refine m_run 1 (ps' := (122, [some (.inr (.inl 7)), some (.inl s), some (.inr (.inl 2)), some (.inl (digS ln sg s)), some (.inl (digS ln sg (s + 2))), some (.inl (digS ln sg (s + 4))), some (.inl 1)], [.inl 2], mW (n, T, h, (ln, sg), x) M, 0, 0)) rfl ?_
                    exact m_ret1 rfl (Or.inl rfl) rfl (m_Vi (by unfold reaS; rw [if_neg (by unfold formS; simp [*]), if_neg (by unfold elemS; simp [*])]))
                  · replace zc10 : (inN n (digS ln sg (s + 4))) = true := bI_n0.mp zc10
                    have zi3 := inN_i.mp zc10
                    refine m_run 2 (ps' := (122, [some (.inr (.inl 7)), some (.inl s), some (.inr (.inl 2)), some (.inl (digS ln sg s)), some (.inl (digS ln sg (s + 2))), some (.inl (digS ln sg (s + 4))), some (.inl 1)], [.inl 0], mW (n, T, h, (ln, sg), x) M, 0, 0)) rfl ?_
                    exact m_ret1 rfl (Or.inl rfl) rfl (m_Vi (by unfold reaS; rw [if_neg (by unfold formS; simp [*]), if_pos (by unfold elemS; simp [*])]))
            · refine m_run 1 (ps' := (90, [some (.inr (.inl 7)), some (.inl s), some (.inr (.inl 2)), some (.inl (digS ln sg s)), some (.inl (digS ln sg (s + 2))), some (.inl (digS ln sg (s + 4))), some (.inl 1)], [.inl 1], mW (n, T, h, (ln, sg), x) M, 0, 0)) rfl ?_
              exact m_ret1 rfl (Or.inl rfl) rfl (m_Vi (by unfold reaS; rw [if_pos (by unfold formS; simp [*])]))
def fplF (n ln : Int) (sg : Int → Int) : Int → Option Int := fun j => if reaS n ln sg (6 * j) = 0 then none else some (6 * j)
def fplS (n ln : Int) (sg : Int → Int) : Option Int := optF (fplF n ln sg) ((ln + 5) / 6).toNat 0
theorem fplS_in {n ln : Int} {sg : Int → Int} {p : Int} (h : fplS n ln sg = some p) : 0 ≤ p ∧ p < ln ∧ p % 6 = 0 := by
  obtain ⟨j, h1, h2, h3, -⟩ := opt_some _ _ h
  unfold fplF at h3
  split at h3
  · cases h3
  · cases h3
    omega
set_option maxHeartbeats 4000000 in
set_option maxRecDepth 100000 in
theorem l_fpl {X : Nat × Nat × (Nat → Int32)} {n : Int} {T : Int → Int} {h : HS} {ln : Int} {sg : Int → Int} {x : XS} {M : MS} {o : Option Int} (hn : okN n) (hS : okS ln sg) : ∀ i : Int, 0 ≤ i → i ≤ (ln + 5) / 6 → ∀ (ho : optF (fplF n ln sg) ((ln + 5) / 6 - i).toNat i = o), m_Sem X 53 (2, [some (.inr (.inl 7)), some (.inr (.inl 2)), some (.inl (6 * i))], [], mW (n, T, h, (ln, sg), x) M, 0, 0) (m_V (oI o) (mW (n, T, h, (ln, sg), x) M)) := by
  obtain ⟨hs1, hs2, hs3⟩ := id hS
  have hl := okN_lo hn
  refine m_down 0 ((ln + 5) / 6) ?_ ?_
  · intro ho
    show m_Sem X 53 (2, [some (.inr (.inl 7)), some (.inr (.inl 2)), some (.inl (6 * ((ln + 5) / 6)))], [], mW (n, T, h, (ln, sg), x) M, 0, 0) _
    refine m_run 3 (ps' := (7, [some (.inr (.inl 7)), some (.inr (.inl 2)), some (.inl (6 * ((ln + 5) / 6)))], [.inl ln, .inl (6 * ((ln + 5) / 6))], mW (n, T, h, (ln, sg), x) M, 0, 0)) rfl ?_
    refine m_icmp rfl ⟨by omega, by omega⟩ ⟨by omega, by omega⟩ (fun (zc1 : ln ≤ (6 * ((ln + 5) / 6))) => ?_) (fun (zc1 : ¬ ln ≤ (6 * ((ln + 5) / 6))) => absurd zc1 (not_not_intro (by omega)))
    refine m_run 1 (ps' := (28, [some (.inr (.inl 7)), some (.inr (.inl 2)), some (.inl (6 * ((ln + 5) / 6)))], [.inl (-1)], mW (n, T, h, (ln, sg), x) M, 0, 0)) rfl ?_
    exact m_ret1 rfl (Or.inl rfl) rfl (m_Vi (by rw [opt_end] at ho; subst ho; rfl))
  · intro i hi1 hi2 ih ho
    refine m_run 3 (ps' := (7, [some (.inr (.inl 7)), some (.inr (.inl 2)), some (.inl (6 * i))], [.inl ln, .inl (6 * i)], mW (n, T, h, (ln, sg), x) M, 0, 0)) rfl ?_
    refine m_icmp rfl ⟨by omega, by omega⟩ ⟨by omega, by omega⟩ (fun (zc1 : ln ≤ (6 * i)) => absurd zc1 (by omega)) (fun (zc1 : ¬ ln ≤ (6 * i)) => ?_)
    refine m_run 3 (ps' := (13, [some (.inr (.inl 7)), some (.inr (.inl 2)), some (.inl (6 * i))], [.inr (.inl 2), .inl (6 * i), .inr (.inl 7)], mW (n, T, h, (ln, sg), x) M, 0, 0)) rfl ?_
    refine m_callVF [.inl (6 * i), .inr (.inl 2)] [] rfl rfl ⟨_, rfl, rfl⟩ rfl rfl (k_rea (s := (6 * i)) hn hS (by omega) (by omega)) ?_
    have zt1 := reaS_in n ln sg (6 * i)
    show m_Sem X 53 (16, [some (.inr (.inl 7)), some (.inr (.inl 2)), some (.inl (6 * i))], [.inl (reaS n ln sg (6 * i))], mW (n, T, h, (ln, sg), x) M, 0, 0) _
    refine m_if rfl ⟨by omega, by omega⟩ (fun (zc2 : (reaS n ln sg (6 * i)) = 0) => ?_) (fun (zc2 : ¬ (reaS n ln sg (6 * i)) = 0) => ?_)
    · refine m_run 2 (ps' := (2, [some (.inr (.inl 7)), some (.inr (.inl 2)), some (.inl ((6 * i) + 6))], [], mW (n, T, h, (ln, sg), x) M, 0, 0)) rfl ?_
      refine m_weak [some (.inr (.inl 7)), some (.inr (.inl 2)), some (.inl ((6 * i) + 6))] ⟨rfl, ⟨rfl, ⟨rfl, trivial⟩⟩⟩ ?_
      have hh : fplF n ln sg i = none := by unfold fplF; rw [if_pos zc2]
      rw [opt_n hi2 hh] at ho
      rw [show 6 * i + 6 = 6 * (i + 1) by omega]
      exact ih ho
    · refine m_run 1 (ps' := (20, [some (.inr (.inl 7)), some (.inr (.inl 2)), some (.inl (6 * i))], [.inl (6 * i)], mW (n, T, h, (ln, sg), x) M, 0, 0)) rfl ?_
      exact m_ret1 rfl (Or.inl rfl) rfl (m_Vi (by
        have hh : fplF n ln sg i = some (6 * i) := by unfold fplF; rw [if_neg zc2]
        rw [opt_s hi2 hh] at ho
        subst ho
        rfl))
set_option maxHeartbeats 4000000 in
set_option maxRecDepth 100000 in
theorem k_fpl {X : Nat × Nat × (Nat → Int32)} {n : Int} {T : Int → Int} {h : HS} {ln : Int} {sg : Int → Int} {x : XS} {M : MS} (hn : okN n) (hS : okS ln sg) : m_Run X 53 [.inr (.inl 7), .inr (.inl 2)] (mW (n, T, h, (ln, sg), x) M) (m_V (oI (fplS n ln sg)) (mW (n, T, h, (ln, sg), x) M)) := by
  obtain ⟨hs1, hs2, hs3⟩ := id hS
  have hl := okN_lo hn
  show m_Sem X 53 (0, [some (.inr (.inl 7)), some (.inr (.inl 2)), none], [], mW (n, T, h, (ln, sg), x) M, 0, 0) _
  refine m_run 2 (ps' := (2, [some (.inr (.inl 7)), some (.inr (.inl 2)), some (.inl 0)], [], mW (n, T, h, (ln, sg), x) M, 0, 0)) rfl ?_
  refine m_weak [some (.inr (.inl 7)), some (.inr (.inl 2)), some (.inl 0)] ⟨rfl, ⟨rfl, ⟨rfl, trivial⟩⟩⟩ ?_
  exact l_fpl hn hS 0 (by omega) (by omega) (by rw [z_sub]; rfl)
theorem oI_fpl {n ln : Int} {sg : Int → Int} (hS : okS ln sg) : -1 ≤ oI (fplS n ln sg) ∧ oI (fplS n ln sg) < 60 := by
  obtain ⟨h1, h2, -⟩ := hS
  cases h : fplS n ln sg with
  | none => exact ⟨by decide, by decide⟩
  | some p =>
    have h3 := fplS_in h
    show -1 ≤ p ∧ p < 60
    omega
/-- the table after the products of the text, from the product number j on -/
def setsT (ln : Int) (sg : Int → Int) : Nat → Int → (Int → Int) → (Int → Int)
  | 0, _, T => T
  | k + 1, j, T => setsT ln sg k (j + 1) (m_up T (9 * digS ln sg (6 * j) + digS ln sg (6 * j + 2)) (digS ln sg (6 * j + 4)))
theorem sets_end (ln : Int) (sg : Int → Int) (n : Int) (T : Int → Int) : setsT ln sg (n - n).toNat n T = T := by rw [nat_end]; rfl
theorem sets_step {ln : Int} {sg : Int → Int} {n i : Int} {T : Int → Int} (h : i < n) : setsT ln sg (n - i).toNat i T = setsT ln sg (n - (i + 1)).toNat (i + 1) (m_up T (9 * digS ln sg (6 * i) + digS ln sg (6 * i + 2)) (digS ln sg (6 * i + 4))) := by rw [nat_step h]; rfl
/-- no product of the text is at fault -/
def goodS (n ln : Int) (sg : Int → Int) : Prop := ∀ j, 0 ≤ j → j < (ln + 5) / 6 → (0 ≤ digS ln sg (6 * j) ∧ digS ln sg (6 * j) < n) ∧ (0 ≤ digS ln sg (6 * j + 2) ∧ digS ln sg (6 * j + 2) < n) ∧ (0 ≤ digS ln sg (6 * j + 4) ∧ digS ln sg (6 * j + 4) < n)
set_option maxHeartbeats 4000000 in
set_option maxRecDepth 100000 in
theorem l_sps {X : Nat × Nat × (Nat → Int32)} {n : Int} {h : HS} {ln : Int} {sg : Int → Int} {x : XS} {M : MS} {T2 : Int → Int} (hn : okN n) (hS : okS ln sg) (hg : goodS n ln sg) : ∀ i : Int, 0 ≤ i → i ≤ (ln + 5) / 6 → ∀ (T : Int → Int) (hT : okT T) (ho : setsT ln sg ((ln + 5) / 6 - i).toNat i T = T2), m_Sem X 55 (4, [some (.inr (.inl 7)), some (.inr (.inl 2)), some (.inl i), some (.inl (6 * i))], [], mW (n, T, h, (ln, sg), x) M, 0, 0) (m_V ((ln + 5) / 6) (mW (n, T2, h, (ln, sg), x) M)) := by
  obtain ⟨hs1, hs2, hs3⟩ := id hS
  have hl := okN_lo hn
  refine m_down 0 ((ln + 5) / 6) ?_ ?_
  · intro T hT ho
    show m_Sem X 55 (4, [some (.inr (.inl 7)), some (.inr (.inl 2)), some (.inl ((ln + 5) / 6)), some (.inl (6 * ((ln + 5) / 6)))], [], mW (n, T, h, (ln, sg), x) M, 0, 0) _
    refine m_run 3 (ps' := (9, [some (.inr (.inl 7)), some (.inr (.inl 2)), some (.inl ((ln + 5) / 6)), some (.inl (6 * ((ln + 5) / 6)))], [.inl ln, .inl (6 * ((ln + 5) / 6))], mW (n, T, h, (ln, sg), x) M, 0, 0)) rfl ?_
    refine m_icmp rfl ⟨by omega, by omega⟩ ⟨by omega, by omega⟩ (fun (zc1 : ln ≤ (6 * ((ln + 5) / 6))) => ?_) (fun (zc1 : ¬ ln ≤ (6 * ((ln + 5) / 6))) => absurd zc1 (not_not_intro (by omega)))
    refine m_run 1 (ps' := (46, [some (.inr (.inl 7)), some (.inr (.inl 2)), some (.inl ((ln + 5) / 6)), some (.inl (6 * ((ln + 5) / 6)))], [.inl ((ln + 5) / 6)], mW (n, T, h, (ln, sg), x) M, 0, 0)) rfl ?_
    exact m_ret1 rfl (Or.inl rfl) rfl (m_Vw rfl (by rw [sets_end] at ho; rw [ho]))
  · intro i hi1 hi2 ih T hT ho
    rw [sets_step hi2] at ho
    have hgi := hg i hi1 hi2
    have hp := hT (9 * digS ln sg (6 * i) + digS ln sg (6 * i + 2)) (by omega) (by omega)
    refine m_run 3 (ps' := (9, [some (.inr (.inl 7)), some (.inr (.inl 2)), some (.inl i), some (.inl (6 * i))], [.inl ln, .inl (6 * i)], mW (n, T, h, (ln, sg), x) M, 0, 0)) rfl ?_
    refine m_icmp rfl ⟨by omega, by omega⟩ ⟨by omega, by omega⟩ (fun (zc1 : ln ≤ (6 * i)) => absurd zc1 (by omega)) (fun (zc1 : ¬ ln ≤ (6 * i)) => ?_)
    refine m_run 3 (ps' := (15, [some (.inr (.inl 7)), some (.inr (.inl 2)), some (.inl i), some (.inl (6 * i))], [.inl (6 * i), .inr (.inl 7), .inr (.inl 2)], mW (n, T, h, (ln, sg), x) M, 0, 0)) rfl ?_
    refine m_callVF [.inl (6 * i)] [.inr (.inl 2)] rfl rfl ⟨_, rfl, rfl⟩ rfl rfl (k_dg (p := (6 * i)) hS ⟨by omega, by omega⟩) ?_
    have zt1 := digS_in (ln := ln) (sg := sg) (6 * i)
    show m_Sem X 55 (18, [some (.inr (.inl 7)), some (.inr (.inl 2)), some (.inl i), some (.inl (6 * i))], [.inl (digS ln sg (6 * i)), .inr (.inl 2)], mW (n, T, h, (ln, sg), x) M, 0, 0) _
    refine m_run 4 (ps' := (22, [some (.inr (.inl 7)), some (.inr (.inl 2)), some (.inl i), some (.inl (6 * i))], [.inl ((6 * i) + 2), .inr (.inl 7), .inl (digS ln sg (6 * i)), .inr (.inl 2)], mW (n, T, h, (ln, sg), x) M, 0, 0)) rfl ?_
    refine m_callVF [.inl ((6 * i) + 2)] [.inl (digS ln sg (6 * i)), .inr (.inl 2)] rfl rfl ⟨_, rfl, rfl⟩ rfl rfl (k_dg (p := ((6 * i) + 2)) hS ⟨by omega, by omega⟩) ?_
    have zt2 := digS_in (ln := ln) (sg := sg) ((6 * i) + 2)
    show m_Sem X 55 (25, [some (.inr (.inl 7)), some (.inr (.inl 2)), some (.inl i), some (.inl (6 * i))], [.inl (digS ln sg ((6 * i) + 2)), .inl (digS ln sg (6 * i)), .inr (.inl 2)], mW (n, T, h, (ln, sg), x) M, 0, 0) _
    refine m_run 4 (ps' := (29, [some (.inr (.inl 7)), some (.inr (.inl 2)), some (.inl i), some (.inl (6 * i))], [.inl ((6 * i) + 4), .inr (.inl 7), .inl (digS ln sg ((6 * i) + 2)), .inl (digS ln sg (6 * i)), .inr (.inl 2)], mW (n, T, h, (ln, sg), x) M, 0, 0)) rfl ?_
    refine m_callVF [.inl ((6 * i) + 4)] [.inl (digS ln sg ((6 * i) + 2)), .inl (digS ln sg (6 * i)), .inr (.inl 2)] rfl rfl ⟨_, rfl, rfl⟩ rfl rfl (k_dg (p := ((6 * i) + 4)) hS ⟨by omega, by omega⟩) ?_
    have zt3 := digS_in (ln := ln) (sg := sg) ((6 * i) + 4)
    show m_Sem X 55 (32, [some (.inr (.inl 7)), some (.inr (.inl 2)), some (.inl i), some (.inl (6 * i))], [.inl (digS ln sg ((6 * i) + 4)), .inl (digS ln sg ((6 * i) + 2)), .inl (digS ln sg (6 * i)), .inr (.inl 2)], mW (n, T, h, (ln, sg), x) M, 0, 0) _
    refine m_callVF [.inl (digS ln sg (6 * i)), .inl (digS ln sg ((6 * i) + 2)), .inl (digS ln sg ((6 * i) + 4))] [] rfl rfl ⟨_, rfl, rfl⟩ rfl rfl (k_set (T := T) (a := (digS ln sg (6 * i))) (b := (digS ln sg ((6 * i) + 2))) (r := (digS ln sg ((6 * i) + 4))) ⟨by omega, by omega⟩ ⟨by omega, by omega⟩ (by omega) (by omega) ⟨by omega, by omega⟩ ⟨by omega, by omega⟩) ?_
    show m_Sem X 55 (35, [some (.inr (.inl 7)), some (.inr (.inl 2)), some (.inl i), some (.inl (6 * i))], [.inl (if T (9 * (digS ln sg (6 * i)) + (digS ln sg ((6 * i) + 2))) = (digS ln sg ((6 * i) + 4)) then 0 else 1)], mW (n, (m_up T (9 * (digS ln sg (6 * i)) + (digS ln sg ((6 * i) + 2))) (digS ln sg ((6 * i) + 4))), h, (ln, sg), x) M, 0, 0) _
    refine m_run 4 (ps' := (4, [some (.inr (.inl 7)), some (.inr (.inl 2)), some (.inl (i + 1)), some (.inl ((6 * i) + 6))], [], mW (n, (m_up T (9 * (digS ln sg (6 * i)) + (digS ln sg ((6 * i) + 2))) (digS ln sg ((6 * i) + 4))), h, (ln, sg), x) M, 0, 0)) rfl ?_
    refine m_weak [some (.inr (.inl 7)), some (.inr (.inl 2)), some (.inl (i + 1)), some (.inl ((6 * i) + 6))] ⟨rfl, ⟨rfl, ⟨rfl, ⟨rfl, trivial⟩⟩⟩⟩ ?_
    rw [show 6 * i + 6 = 6 * (i + 1) by omega]
    exact ih _ (okT_up hT (by omega) (by omega)) ho
set_option maxHeartbeats 4000000 in
set_option maxRecDepth 100000 in
theorem k_sps {X : Nat × Nat × (Nat → Int32)} {n : Int} {T : Int → Int} {h : HS} {ln : Int} {sg : Int → Int} {x : XS} {M : MS} (hn : okN n) (hS : okS ln sg) (hg : goodS n ln sg) (hT : okT T) : m_Run X 55 [.inr (.inl 7), .inr (.inl 2)] (mW (n, T, h, (ln, sg), x) M) (m_V ((ln + 5) / 6) (mW (n, setsT ln sg ((ln + 5) / 6).toNat 0 T, h, (ln, sg), x) M)) := by
  obtain ⟨hs1, hs2, hs3⟩ := id hS
  have hl := okN_lo hn
  show m_Sem X 55 (0, [some (.inr (.inl 7)), some (.inr (.inl 2)), none, none], [], mW (n, T, h, (ln, sg), x) M, 0, 0) _
  refine m_run 4 (ps' := (4, [some (.inr (.inl 7)), some (.inr (.inl 2)), some (.inl 0), some (.inl 0)], [], mW (n, T, h, (ln, sg), x) M, 0, 0)) rfl ?_
  refine m_weak [some (.inr (.inl 7)), some (.inr (.inl 2)), some (.inl 0), some (.inl 0)] ⟨rfl, ⟨rfl, ⟨rfl, ⟨rfl, trivial⟩⟩⟩⟩ ?_
  exact l_sps hn hS hg 0 (by omega) (by omega) T hT (by rw [z_sub])
end
section
def rgS (f : Int → Int) (p : Int) : Int := if p < 0 then -1 else if 91 ≤ p then -1 else f p
theorem rgS_at {f : Int → Int} {p : Int} (h1 : 0 ≤ p) (h2 : p < 91) : rgS f p = f p := by unfold rgS; rw [if_neg (by omega), if_neg (by omega)]
def rayS (n : Int) (tb : Int → Int → Int) (ax ce p : Int) : Int := if p = ce then -1 else if onC n tb p ax = true then -1 else lnC n tb ce p
theorem rayS_in {n : Int} {tb : Int → Int → Int} {ax ce p : Int} : rayS n tb ax ce p = -1 ∨ (0 ≤ rayS n tb ax ce p ∧ rayS n tb ax ce p < NP n) := by
  unfold rayS
  split
  · exact Or.inl rfl
  · split
    · exact Or.inl rfl
    · exact lnC_in
def loS (n : Int) (ry : Int → Int) (lo : Int) : Int := fstF (fun p => decide (ry p ≠ -1) && decide (ry p ≠ lo)) (NP n).toNat 0
theorem fst_in {p : Int → Bool} : ∀ (k : Nat) (i : Int), fstF p k i = -1 ∨ (i ≤ fstF p k i ∧ fstF p k i < i + k ∧ p (fstF p k i) = true)
  | 0, _ => Or.inl rfl
  | k + 1, i => by
    unfold fstF
    cases h : p i with
    | true => exact Or.inr ⟨Int.le_refl _, by show i < _; omega, h⟩
    | false =>
      rcases fst_in (p := p) k (i + 1) with h1 | ⟨h1, h2, h3⟩
      · exact Or.inl h1
      · exact Or.inr ⟨by show i ≤ fstF p k (i + 1); omega, by show fstF p k (i + 1) < _; omega, h3⟩
theorem loS_in {n lo : Int} {ry : Int → Int} (hn : okN n) : loS n ry lo = -1 ∨ (0 ≤ loS n ry lo ∧ loS n ry lo < NP n) := by
  have hl := okN_lo hn
  have hq := sq_b hn
  rcases fst_in (p := fun p => decide (ry p ≠ -1) && decide (ry p ≠ lo)) (NP n).toNat 0 with h | ⟨h1, h2, -⟩
  · exact Or.inl h
  · refine Or.inr ⟨h1, ?_⟩
    unfold loS
    unfold NP at h2 ⊢
    omega
def rayOk (n : Int) (ry : Int → Int) : Prop := ∀ p, 0 ≤ p → p < NP n → ry p = -1 ∨ (0 ≤ ry p ∧ ry p < NP n)
set_option maxHeartbeats 4000000 in
set_option maxRecDepth 100000 in
theorem k_ray {X : Nat × Nat × (Nat → Int32)} {n : Int} {T : Int → Int} {h : HS} {t : TS} {ry ft im : Int → Int} {en br hl : Int} {M : MS} {p : Int} (hp : m_R p) : m_Run X 17 [.inr (.inl 9), .inl p] (mW (n, T, h, t, (ry, ft, im, en, br, hl)) M) (m_V (rgS ry p) (mW (n, T, h, t, (ry, ft, im, en, br, hl)) M)) := by
  show m_Sem X 17 (0, [some (.inr (.inl 9)), some (.inl p)], [], mW (n, T, h, t, (ry, ft, im, en, br, hl)) M, 0, 0) _
  refine m_run 1 (ps' := (1, [some (.inr (.inl 9)), some (.inl p)], [.inl p], mW (n, T, h, t, (ry, ft, im, en, br, hl)) M, 0, 0)) rfl ?_
  refine m_if rfl hp (fun (zc1 : p < 0) => ?_) (fun (zc1 : ¬ p < 0) => ?_)
  · refine m_run 1 (ps' := (23, [some (.inr (.inl 9)), some (.inl p)], [.inl (-1)], mW (n, T, h, t, (ry, ft, im, en, br, hl)) M, 0, 0)) rfl ?_
    exact m_ret1 rfl (Or.inl rfl) rfl (m_Vi (by unfold rgS; (repeat' split) <;> first | rfl | (exfalso; omega) | omega | simp_all))
  · refine m_run 4 (ps' := (10, [some (.inr (.inl 9)), some (.inl p)], [.inl 91, .inl p], mW (n, T, h, t, (ry, ft, im, en, br, hl)) M, 0, 0)) rfl ?_
    refine m_icmp rfl hp ⟨by omega, by omega⟩ (fun (zc2 : 91 ≤ p) => ?_) (fun (zc2 : ¬ 91 ≤ p) => ?_)
    · refine m_run 1 (ps' := (23, [some (.inr (.inl 9)), some (.inl p)], [.inl (-1)], mW (n, T, h, t, (ry, ft, im, en, br, hl)) M, 0, 0)) rfl ?_
      exact m_ret1 rfl (Or.inl rfl) rfl (m_Vi (by unfold rgS; (repeat' split) <;> first | rfl | (exfalso; omega) | omega | simp_all))
    · refine m_run 3 (ps' := (18, [some (.inr (.inl 9)), some (.inl p)], [.inl p, .inr (.inl 10)], mW (n, T, h, t, (ry, ft, im, en, br, hl)) M, 0, 0)) rfl ?_
      refine m_iald rfl rfl (by omega) (by omega) (by decide) ?_
      refine m_run 1 (ps' := (23, [some (.inr (.inl 9)), some (.inl p)], [.inl (ry p)], mW (n, T, h, t, (ry, ft, im, en, br, hl)) M, 0, 0)) rfl ?_
      exact m_ret1 rfl (Or.inl rfl) rfl (m_Vi (by unfold rgS; (repeat' split) <;> first | rfl | (exfalso; omega) | omega | simp_all))
set_option maxHeartbeats 4000000 in
set_option maxRecDepth 100000 in
theorem k_img {X : Nat × Nat × (Nat → Int32)} {n : Int} {T : Int → Int} {h : HS} {t : TS} {ry ft im : Int → Int} {en br hl : Int} {M : MS} {p : Int} (hp : m_R p) : m_Run X 18 [.inr (.inl 9), .inl p] (mW (n, T, h, t, (ry, ft, im, en, br, hl)) M) (m_V (rgS im p) (mW (n, T, h, t, (ry, ft, im, en, br, hl)) M)) := by
  show m_Sem X 18 (0, [some (.inr (.inl 9)), some (.inl p)], [], mW (n, T, h, t, (ry, ft, im, en, br, hl)) M, 0, 0) _
  refine m_run 1 (ps' := (1, [some (.inr (.inl 9)), some (.inl p)], [.inl p], mW (n, T, h, t, (ry, ft, im, en, br, hl)) M, 0, 0)) rfl ?_
  refine m_if rfl hp (fun (zc1 : p < 0) => ?_) (fun (zc1 : ¬ p < 0) => ?_)
  · refine m_run 1 (ps' := (23, [some (.inr (.inl 9)), some (.inl p)], [.inl (-1)], mW (n, T, h, t, (ry, ft, im, en, br, hl)) M, 0, 0)) rfl ?_
    exact m_ret1 rfl (Or.inl rfl) rfl (m_Vi (by unfold rgS; (repeat' split) <;> first | rfl | (exfalso; omega) | omega | simp_all))
  · refine m_run 4 (ps' := (10, [some (.inr (.inl 9)), some (.inl p)], [.inl 91, .inl p], mW (n, T, h, t, (ry, ft, im, en, br, hl)) M, 0, 0)) rfl ?_
    refine m_icmp rfl hp ⟨by omega, by omega⟩ (fun (zc2 : 91 ≤ p) => ?_) (fun (zc2 : ¬ 91 ≤ p) => ?_)
    · refine m_run 1 (ps' := (23, [some (.inr (.inl 9)), some (.inl p)], [.inl (-1)], mW (n, T, h, t, (ry, ft, im, en, br, hl)) M, 0, 0)) rfl ?_
      exact m_ret1 rfl (Or.inl rfl) rfl (m_Vi (by unfold rgS; (repeat' split) <;> first | rfl | (exfalso; omega) | omega | simp_all))
    · refine m_run 3 (ps' := (18, [some (.inr (.inl 9)), some (.inl p)], [.inl p, .inr (.inl 12)], mW (n, T, h, t, (ry, ft, im, en, br, hl)) M, 0, 0)) rfl ?_
      refine m_iald rfl rfl (by omega) (by omega) (by decide) ?_
      refine m_run 1 (ps' := (23, [some (.inr (.inl 9)), some (.inl p)], [.inl (im p)], mW (n, T, h, t, (ry, ft, im, en, br, hl)) M, 0, 0)) rfl ?_
      exact m_ret1 rfl (Or.inl rfl) rfl (m_Vi (by unfold rgS; (repeat' split) <;> first | rfl | (exfalso; omega) | omega | simp_all))
set_option maxHeartbeats 4000000 in
set_option maxRecDepth 100000 in
theorem l_lo {X : Nat × Nat × (Nat → Int32)} {n : Int} {T : Int → Int} {h : HS} {t : TS} {ry ft im : Int → Int} {br hl : Int} {M : MS} {tb : Int → Int → Int} {lo : Int} (hR : repC n T tb) (hlo : m_R lo) (hry : rayOk n ry) : ∀ iv : Int, 0 ≤ iv → iv ≤ (NP n) → m_Sem X 16 (2, [some (.inr (.inl 9)), some (.inl lo), some (.inl iv)], [], mW (n, T, h, t, (ry, ft, im, (NP n), br, hl)) M, 0, 0) (m_V (fstF (fun p => decide (ry p ≠ -1) && decide (ry p ≠ lo)) (NP n - iv).toNat iv) (mW (n, T, h, t, (ry, ft, im, (NP n), br, hl)) M)) := by
  have hn := hR.1
  have hln := okN_lo hn
  have hq := sq_b hn
  have hnp : NP n = n * n + n + 1 := rfl
  refine m_down 0 (NP n) ?_ ?_
  · show m_Sem X 16 (2, [some (.inr (.inl 9)), some (.inl lo), some (.inl (NP n))], [], mW (n, T, h, t, (ry, ft, im, (NP n), br, hl)) M, 0, 0) _
    refine m_run 3 (ps' := (7, [some (.inr (.inl 9)), some (.inl lo), some (.inl (NP n))], [.inl (NP n), .inl (NP n)], mW (n, T, h, t, (ry, ft, im, (NP n), br, hl)) M, 0, 0)) rfl ?_
    refine m_icmp rfl ⟨by omega, by omega⟩ ⟨by omega, by omega⟩ (fun (zc1 : (NP n) ≤ (NP n)) => ?_) (fun (zc1 : ¬ (NP n) ≤ (NP n)) => absurd zc1 (not_not_intro (by omega)))
    refine m_run 1 (ps' := (43, [some (.inr (.inl 9)), some (.inl lo), some (.inl (NP n))], [.inl (-1)], mW (n, T, h, t, (ry, ft, im, (NP n), br, hl)) M, 0, 0)) rfl ?_
    exact m_ret1 rfl (Or.inl rfl) rfl (m_Vi (fst_end _ _).symm)
  · intro iv hi1 hi2 ih 
    have hr0 := hry iv hi1 hi2
    have hrg : rgS ry iv = ry iv := rgS_at hi1 (by omega)
    refine m_run 3 (ps' := (7, [some (.inr (.inl 9)), some (.inl lo), some (.inl iv)], [.inl (NP n), .inl iv], mW (n, T, h, t, (ry, ft, im, (NP n), br, hl)) M, 0, 0)) rfl ?_
    refine m_icmp rfl ⟨by omega, by omega⟩ ⟨by omega, by omega⟩ (fun (zc1 : (NP n) ≤ iv) => absurd zc1 (by omega)) (fun (zc1 : ¬ (NP n) ≤ iv) => ?_)
    refine m_run 2 (ps' := (13, [some (.inr (.inl 9)), some (.inl lo), some (.inl iv)], [.inl 91, .inl iv], mW (n, T, h, t, (ry, ft, im, (NP n), br, hl)) M, 0, 0)) rfl ?_
    refine m_icmp rfl ⟨by omega, by omega⟩ ⟨by omega, by omega⟩ (fun (zc2 : 91 ≤ iv) => absurd zc2 (by omega)) (fun (zc2 : ¬ 91 ≤ iv) => ?_)
    refine m_run 2 (ps' := (18, [some (.inr (.inl 9)), some (.inl lo), some (.inl iv)], [.inl iv, .inr (.inl 9)], mW (n, T, h, t, (ry, ft, im, (NP n), br, hl)) M, 0, 0)) rfl ?_
    refine m_callVF [.inl iv] [] rfl rfl ⟨_, rfl, rfl⟩ rfl rfl (k_ray (p := iv) ⟨by omega, by omega⟩) ?_
    show m_Sem X 16 (21, [some (.inr (.inl 9)), some (.inl lo), some (.inl iv)], [.inl (rgS ry iv)], mW (n, T, h, t, (ry, ft, im, (NP n), br, hl)) M, 0, 0) _
    refine m_run 1 (ps' := (22, [some (.inr (.inl 9)), some (.inl lo), some (.inl iv)], [.inl (-1), .inl (rgS ry iv)], mW (n, T, h, t, (ry, ft, im, (NP n), br, hl)) M, 0, 0)) rfl ?_
    refine m_icmp rfl ⟨by omega, by omega⟩ ⟨by omega, by omega⟩ (fun (zc3 : (rgS ry iv) = (-1)) => ?_) (fun (zc3 : ¬ (rgS ry iv) = (-1)) => ?_)
    · refine m_run 2 (ps' := (2, [some (.inr (.inl 9)), some (.inl lo), some (.inl (iv + 1))], [], mW (n, T, h, t, (ry, ft, im, (NP n), br, hl)) M, 0, 0)) rfl ?_
      refine m_weak [some (.inr (.inl 9)), some (.inl lo), some (.inl (iv + 1))] ⟨rfl, ⟨rfl, ⟨rfl, trivial⟩⟩⟩ ?_
      rw [hrg] at zc3
      try rw [hrg] at zc4
      rw [fst_f hi2 (by simp [*])]
      exact ih
    · refine m_run 2 (ps' := (27, [some (.inr (.inl 9)), some (.inl lo), some (.inl iv)], [.inl iv, .inr (.inl 9)], mW (n, T, h, t, (ry, ft, im, (NP n), br, hl)) M, 0, 0)) rfl ?_
      refine m_callVF [.inl iv] [] rfl rfl ⟨_, rfl, rfl⟩ rfl rfl (k_ray (p := iv) ⟨by omega, by omega⟩) ?_
      show m_Sem X 16 (30, [some (.inr (.inl 9)), some (.inl lo), some (.inl iv)], [.inl (rgS ry iv)], mW (n, T, h, t, (ry, ft, im, (NP n), br, hl)) M, 0, 0) _
      refine m_run 1 (ps' := (31, [some (.inr (.inl 9)), some (.inl lo), some (.inl iv)], [.inl lo, .inl (rgS ry iv)], mW (n, T, h, t, (ry, ft, im, (NP n), br, hl)) M, 0, 0)) rfl ?_
      refine m_icmp rfl ⟨by omega, by omega⟩ hlo (fun (zc4 : (rgS ry iv) = lo) => ?_) (fun (zc4 : ¬ (rgS ry iv) = lo) => ?_)
      · refine m_run 2 (ps' := (2, [some (.inr (.inl 9)), some (.inl lo), some (.inl (iv + 1))], [], mW (n, T, h, t, (ry, ft, im, (NP n), br, hl)) M, 0, 0)) rfl ?_
        refine m_weak [some (.inr (.inl 9)), some (.inl lo), some (.inl (iv + 1))] ⟨rfl, ⟨rfl, ⟨rfl, trivial⟩⟩⟩ ?_
        rw [hrg] at zc3
        try rw [hrg] at zc4
        rw [fst_f hi2 (by simp [*])]
        exact ih
      · refine m_run 1 (ps' := (35, [some (.inr (.inl 9)), some (.inl lo), some (.inl iv)], [.inl iv], mW (n, T, h, t, (ry, ft, im, (NP n), br, hl)) M, 0, 0)) rfl ?_
        exact m_ret1 rfl (Or.inl rfl) rfl (m_Vi (fst_t hi2 (by rw [hrg] at zc3 zc4; rw [decide_eq_true zc3, decide_eq_true zc4]; rfl)).symm)
set_option maxHeartbeats 4000000 in
set_option maxRecDepth 100000 in
theorem k_lo {X : Nat × Nat × (Nat → Int32)} {n : Int} {T : Int → Int} {h : HS} {t : TS} {ry ft im : Int → Int} {br hl : Int} {M : MS} {tb : Int → Int → Int} {lo : Int} (hR : repC n T tb) (hlo : m_R lo) (hry : rayOk n ry) : m_Run X 16 [.inr (.inl 9), .inl lo] (mW (n, T, h, t, (ry, ft, im, (NP n), br, hl)) M) (m_V (loS n ry lo) (mW (n, T, h, t, (ry, ft, im, (NP n), br, hl)) M)) := by
  have hn := hR.1
  have hln := okN_lo hn
  have hq := sq_b hn
  have hnp : NP n = n * n + n + 1 := rfl
  show m_Sem X 16 (0, [some (.inr (.inl 9)), some (.inl lo), none], [], mW (n, T, h, t, (ry, ft, im, (NP n), br, hl)) M, 0, 0) _
  refine m_run 2 (ps' := (2, [some (.inr (.inl 9)), some (.inl lo), some (.inl 0)], [], mW (n, T, h, t, (ry, ft, im, (NP n), br, hl)) M, 0, 0)) rfl ?_
  refine m_weak [some (.inr (.inl 9)), some (.inl lo), some (.inl 0)] ⟨rfl, ⟨rfl, ⟨rfl, trivial⟩⟩⟩ ?_
  have h0 := l_lo (X := X) (h := h) (t := t) (ft := ft) (im := im) (br := br) (hl := hl) (M := M) hR hlo hry 0 (by omega) (by omega)
  rw [z_sub] at h0
  exact h0
set_option maxHeartbeats 4000000 in
set_option maxRecDepth 100000 in
theorem l_lr {X : Nat × Nat × (Nat → Int32)} {n : Int} {T : Int → Int} {h : HS} {t : TS} {ft : Int → Int} {br hl : Int} {M : MS} {tb : Int → Int → Int} {ax ce : Int} (hR : repC n T tb) (hax : m_R ax) (hce : m_R ce) : ∀ iv : Int, 0 ≤ iv → iv ≤ (NP n) → ∀ (ry : Int → Int) (im : Int → Int) (hf : ∀ p, 0 ≤ p → p < iv → ry p = rayS n tb ax ce p ∧ im p = p), m_Sem X 14 (11, [some (.inr (.inl 9)), some (.inr (.inl 1)), some (.inl ax), some (.inl ce), some (.inl iv), none], [], mW (n, T, h, t, (ry, ft, im, (NP n), br, hl)) M, 0, 0) (fun r w => r = none ∧ ∃ ry2 im2, w = mW (n, T, h, t, (ry2, ft, im2, NP n, br, hl)) M ∧ ∀ p, 0 ≤ p → p < NP n → ry2 p = rayS n tb ax ce p ∧ im2 p = p) := by
  have hn := hR.1
  have hln := okN_lo hn
  have hq := sq_b hn
  have hnp : NP n = n * n + n + 1 := rfl
  refine m_down 0 (NP n) ?_ ?_
  · intro ry im hf
    show m_Sem X 14 (11, [some (.inr (.inl 9)), some (.inr (.inl 1)), some (.inl ax), some (.inl ce), some (.inl (NP n)), none], [], mW (n, T, h, t, (ry, ft, im, (NP n), br, hl)) M, 0, 0) _
    refine m_run 3 (ps' := (17, [some (.inr (.inl 9)), some (.inr (.inl 1)), some (.inl ax), some (.inl ce), some (.inl (NP n)), none], [.inl (NP n), .inl (NP n)], mW (n, T, h, t, (ry, ft, im, (NP n), br, hl)) M, 0, 0)) rfl ?_
    refine m_icmp rfl ⟨by omega, by omega⟩ ⟨by omega, by omega⟩ (fun (zc1 : (NP n) ≤ (NP n)) => ?_) (fun (zc1 : ¬ (NP n) ≤ (NP n)) => absurd zc1 (not_not_intro (by omega)))
    exact m_ret0 rfl rfl rfl (⟨rfl, ry, im, rfl, hf⟩)
  · intro iv hi1 hi2 ih ry im hf
    refine m_run 3 (ps' := (17, [some (.inr (.inl 9)), some (.inr (.inl 1)), some (.inl ax), some (.inl ce), some (.inl iv), none], [.inl (NP n), .inl iv], mW (n, T, h, t, (ry, ft, im, (NP n), br, hl)) M, 0, 0)) rfl ?_
    refine m_icmp rfl ⟨by omega, by omega⟩ ⟨by omega, by omega⟩ (fun (zc1 : (NP n) ≤ iv) => absurd zc1 (by omega)) (fun (zc1 : ¬ (NP n) ≤ iv) => ?_)
    refine m_run 2 (ps' := (24, [some (.inr (.inl 9)), some (.inr (.inl 1)), some (.inl ax), some (.inl ce), some (.inl iv), none], [.inl 91, .inl iv], mW (n, T, h, t, (ry, ft, im, (NP n), br, hl)) M, 0, 0)) rfl ?_
    refine m_icmp rfl ⟨by omega, by omega⟩ ⟨by omega, by omega⟩ (fun (zc2 : 91 ≤ iv) => absurd zc2 (by omega)) (fun (zc2 : ¬ 91 ≤ iv) => ?_)
    refine m_run 2 (ps' := (30, [some (.inr (.inl 9)), some (.inr (.inl 1)), some (.inl ax), some (.inl ce), some (.inl iv), none], [.inl ce, .inl iv], mW (n, T, h, t, (ry, ft, im, (NP n), br, hl)) M, 0, 0)) rfl ?_
    refine m_icmp rfl ⟨by omega, by omega⟩ hce (fun (zc3 : iv = ce) => ?_) (fun (zc3 : ¬ iv = ce) => ?_)
    · refine m_run 6 (ps' := (58, [some (.inr (.inl 9)), some (.inr (.inl 1)), some (.inl ax), some (.inl ce), some (.inl iv), some (.inl 0)], [.inl 0, .inl iv, .inr (.inl 10)], mW (n, T, h, t, (ry, ft, im, (NP n), br, hl)) M, 0, 0)) rfl ?_
      refine m_if rfl ⟨by omega, by omega⟩ (fun (zc4 : 0 = 0) => ?_) (fun (zc4 : ¬ 0 = 0) => absurd zc4 (not_not_intro (by omega)))
      refine m_run 1 (ps' := (72, [some (.inr (.inl 9)), some (.inr (.inl 1)), some (.inl ax), some (.inl ce), some (.inl iv), some (.inl 0)], [.inl (-1), .inl iv, .inr (.inl 10)], mW (n, T, h, t, (ry, ft, im, (NP n), br, hl)) M, 0, 0)) rfl ?_
      refine m_iast rfl rfl (by omega) (by omega) (by decide) ?_
      show m_Sem X 14 (73, [some (.inr (.inl 9)), some (.inr (.inl 1)), some (.inl ax), some (.inl ce), some (.inl iv), some (.inl 0)], [], mW (n, T, h, t, ((m_up ry iv (-1)), ft, im, (NP n), br, hl)) M, 0, 0) _
      refine m_run 4 (ps' := (81, [some (.inr (.inl 9)), some (.inr (.inl 1)), some (.inl ax), some (.inl ce), some (.inl iv), some (.inl 0)], [.inl iv, .inl iv, .inr (.inl 12)], mW (n, T, h, t, ((m_up ry iv (-1)), ft, im, (NP n), br, hl)) M, 0, 0)) rfl ?_
      refine m_iast rfl rfl (by omega) (by omega) (by decide) ?_
      show m_Sem X 14 (82, [some (.inr (.inl 9)), some (.inr (.inl 1)), some (.inl ax), some (.inl ce), some (.inl iv), some (.inl 0)], [], mW (n, T, h, t, ((m_up ry iv (-1)), ft, (m_up im iv iv), (NP n), br, hl)) M, 0, 0) _
      refine m_run 2 (ps' := (11, [some (.inr (.inl 9)), some (.inr (.inl 1)), some (.inl ax), some (.inl ce), some (.inl (iv + 1)), some (.inl 0)], [], mW (n, T, h, t, ((m_up ry iv (-1)), ft, (m_up im iv iv), (NP n), br, hl)) M, 0, 0)) rfl ?_
      refine m_weak [some (.inr (.inl 9)), some (.inr (.inl 1)), some (.inl ax), some (.inl ce), some (.inl (iv + 1)), none] ⟨rfl, ⟨rfl, ⟨rfl, ⟨rfl, ⟨rfl, trivial⟩⟩⟩⟩⟩ ?_
      refine ih _ _ (fun p h1 h2 => ?_)
      by_cases hpi : p = iv
      · subst hpi
        rw [m_up_s, m_up_s]
        exact ⟨by unfold rayS; simp [*], rfl⟩
      · rw [m_up_n _ _ hpi, m_up_n _ _ hpi]
        exact hf p h1 (by omega)
    · refine m_run 3 (ps' := (37, [some (.inr (.inl 9)), some (.inr (.inl 1)), some (.inl ax), some (.inl ce), some (.inl iv), none], [.inl ax, .inl iv, .inr (.inl 1)], mW (n, T, h, t, (ry, ft, im, (NP n), br, hl)) M, 0, 0)) rfl ?_
      refine m_callVF [.inl iv, .inl ax] [] rfl rfl ⟨_, rfl, rfl⟩ rfl rfl (k_on (p := iv) (l := ax) hR ⟨by omega, by omega⟩ hax) ?_
      show m_Sem X 14 (40, [some (.inr (.inl 9)), some (.inr (.inl 1)), some (.inl ax), some (.inl ce), some (.inl iv), none], [.inl (bI (onC n tb iv ax))], mW (n, T, h, t, (ry, ft, im, (NP n), br, hl)) M, 0, 0) _
      refine m_if rfl (bI_R _) (fun (zc4 : ¬ (bI (onC n tb iv ax)) = 0) => ?_) (fun (zc4 : ¬ ¬ (bI (onC n tb iv ax)) = 0) => ?_)
      · replace zc4 : (onC n tb iv ax) = true := bI_n0.mp zc4
        refine m_run 6 (ps' := (58, [some (.inr (.inl 9)), some (.inr (.inl 1)), some (.inl ax), some (.inl ce), some (.inl iv), some (.inl 0)], [.inl 0, .inl iv, .inr (.inl 10)], mW (n, T, h, t, (ry, ft, im, (NP n), br, hl)) M, 0, 0)) rfl ?_
        refine m_if rfl ⟨by omega, by omega⟩ (fun (zc5 : 0 = 0) => ?_) (fun (zc5 : ¬ 0 = 0) => absurd zc5 (not_not_intro (by omega)))
        refine m_run 1 (ps' := (72, [some (.inr (.inl 9)), some (.inr (.inl 1)), some (.inl ax), some (.inl ce), some (.inl iv), some (.inl 0)], [.inl (-1), .inl iv, .inr (.inl 10)], mW (n, T, h, t, (ry, ft, im, (NP n), br, hl)) M, 0, 0)) rfl ?_
        refine m_iast rfl rfl (by omega) (by omega) (by decide) ?_
        show m_Sem X 14 (73, [some (.inr (.inl 9)), some (.inr (.inl 1)), some (.inl ax), some (.inl ce), some (.inl iv), some (.inl 0)], [], mW (n, T, h, t, ((m_up ry iv (-1)), ft, im, (NP n), br, hl)) M, 0, 0) _
        refine m_run 4 (ps' := (81, [some (.inr (.inl 9)), some (.inr (.inl 1)), some (.inl ax), some (.inl ce), some (.inl iv), some (.inl 0)], [.inl iv, .inl iv, .inr (.inl 12)], mW (n, T, h, t, ((m_up ry iv (-1)), ft, im, (NP n), br, hl)) M, 0, 0)) rfl ?_
        refine m_iast rfl rfl (by omega) (by omega) (by decide) ?_
        show m_Sem X 14 (82, [some (.inr (.inl 9)), some (.inr (.inl 1)), some (.inl ax), some (.inl ce), some (.inl iv), some (.inl 0)], [], mW (n, T, h, t, ((m_up ry iv (-1)), ft, (m_up im iv iv), (NP n), br, hl)) M, 0, 0) _
        refine m_run 2 (ps' := (11, [some (.inr (.inl 9)), some (.inr (.inl 1)), some (.inl ax), some (.inl ce), some (.inl (iv + 1)), some (.inl 0)], [], mW (n, T, h, t, ((m_up ry iv (-1)), ft, (m_up im iv iv), (NP n), br, hl)) M, 0, 0)) rfl ?_
        refine m_weak [some (.inr (.inl 9)), some (.inr (.inl 1)), some (.inl ax), some (.inl ce), some (.inl (iv + 1)), none] ⟨rfl, ⟨rfl, ⟨rfl, ⟨rfl, ⟨rfl, trivial⟩⟩⟩⟩⟩ ?_
        refine ih _ _ (fun p h1 h2 => ?_)
        by_cases hpi : p = iv
        · subst hpi
          rw [m_up_s, m_up_s]
          exact ⟨by unfold rayS; simp [*], rfl⟩
        · rw [m_up_n _ _ hpi, m_up_n _ _ hpi]
          exact hf p h1 (by omega)
      · replace zc4 : (onC n tb iv ax) = false := bI_e0.mp (Decidable.not_not.mp zc4)
        refine m_run 7 (ps' := (58, [some (.inr (.inl 9)), some (.inr (.inl 1)), some (.inl ax), some (.inl ce), some (.inl iv), some (.inl 1)], [.inl 1, .inl iv, .inr (.inl 10)], mW (n, T, h, t, (ry, ft, im, (NP n), br, hl)) M, 0, 0)) rfl ?_
        refine m_if rfl ⟨by omega, by omega⟩ (fun (zc5 : 1 = 0) => absurd zc5 (by omega)) (fun (zc5 : ¬ 1 = 0) => ?_)
        refine m_run 3 (ps' := (65, [some (.inr (.inl 9)), some (.inr (.inl 1)), some (.inl ax), some (.inl ce), some (.inl iv), some (.inl 1)], [.inl iv, .inl ce, .inr (.inl 1), .inl iv, .inr (.inl 10)], mW (n, T, h, t, (ry, ft, im, (NP n), br, hl)) M, 0, 0)) rfl ?_
        refine m_callVF [.inl ce, .inl iv] [.inl iv, .inr (.inl 10)] rfl rfl ⟨_, rfl, rfl⟩ rfl rfl (k_ln (p := ce) (q := iv) hR hce ⟨by omega, by omega⟩) ?_
        have zt1 := lnC_in (n := n) (tb := tb) (p := ce) (q := iv)
        unfold NP at zt1
        show m_Sem X 14 (68, [some (.inr (.inl 9)), some (.inr (.inl 1)), some (.inl ax), some (.inl ce), some (.inl iv), some (.inl 1)], [.inl (lnC n tb ce iv), .inl iv, .inr (.inl 10)], mW (n, T, h, t, (ry, ft, im, (NP n), br, hl)) M, 0, 0) _
        refine m_run 1 (ps' := (72, [some (.inr (.inl 9)), some (.inr (.inl 1)), some (.inl ax), some (.inl ce), some (.inl iv), some (.inl 1)], [.inl (lnC n tb ce iv), .inl iv, .inr (.inl 10)], mW (n, T, h, t, (ry, ft, im, (NP n), br, hl)) M, 0, 0)) rfl ?_
        refine m_iast rfl rfl (by omega) (by omega) (by decide) ?_
        show m_Sem X 14 (73, [some (.inr (.inl 9)), some (.inr (.inl 1)), some (.inl ax), some (.inl ce), some (.inl iv), some (.inl 1)], [], mW (n, T, h, t, ((m_up ry iv (lnC n tb ce iv)), ft, im, (NP n), br, hl)) M, 0, 0) _
        refine m_run 4 (ps' := (81, [some (.inr (.inl 9)), some (.inr (.inl 1)), some (.inl ax), some (.inl ce), some (.inl iv), some (.inl 1)], [.inl iv, .inl iv, .inr (.inl 12)], mW (n, T, h, t, ((m_up ry iv (lnC n tb ce iv)), ft, im, (NP n), br, hl)) M, 0, 0)) rfl ?_
        refine m_iast rfl rfl (by omega) (by omega) (by decide) ?_
        show m_Sem X 14 (82, [some (.inr (.inl 9)), some (.inr (.inl 1)), some (.inl ax), some (.inl ce), some (.inl iv), some (.inl 1)], [], mW (n, T, h, t, ((m_up ry iv (lnC n tb ce iv)), ft, (m_up im iv iv), (NP n), br, hl)) M, 0, 0) _
        refine m_run 2 (ps' := (11, [some (.inr (.inl 9)), some (.inr (.inl 1)), some (.inl ax), some (.inl ce), some (.inl (iv + 1)), some (.inl 1)], [], mW (n, T, h, t, ((m_up ry iv (lnC n tb ce iv)), ft, (m_up im iv iv), (NP n), br, hl)) M, 0, 0)) rfl ?_
        refine m_weak [some (.inr (.inl 9)), some (.inr (.inl 1)), some (.inl ax), some (.inl ce), some (.inl (iv + 1)), none] ⟨rfl, ⟨rfl, ⟨rfl, ⟨rfl, ⟨rfl, trivial⟩⟩⟩⟩⟩ ?_
        refine ih _ _ (fun p h1 h2 => ?_)
        by_cases hpi : p = iv
        · subst hpi
          rw [m_up_s, m_up_s]
          exact ⟨by unfold rayS; simp [*], rfl⟩
        · rw [m_up_n _ _ hpi, m_up_n _ _ hpi]
          exact hf p h1 (by omega)
set_option maxHeartbeats 4000000 in
set_option maxRecDepth 100000 in
theorem k_lr {X : Nat × Nat × (Nat → Int32)} {n : Int} {T : Int → Int} {h : HS} {t : TS} {ry ft im : Int → Int} {en br hl : Int} {M : MS} {tb : Int → Int → Int} {ax ce : Int} (hR : repC n T tb) (hax : m_R ax) (hce : m_R ce) : m_Run X 14 [.inr (.inl 9), .inr (.inl 1), .inl ax, .inl ce] (mW (n, T, h, t, (ry, ft, im, en, br, hl)) M) (fun r w => r = none ∧ ∃ ry2 im2, w = mW (n, T, h, t, (ry2, ft, im2, NP n, br, hl)) M ∧ ∀ p, 0 ≤ p → p < NP n → ry2 p = rayS n tb ax ce p ∧ im2 p = p) := by
  have hn := hR.1
  have hln := okN_lo hn
  have hq := sq_b hn
  have hnp : NP n = n * n + n + 1 := rfl
  show m_Sem X 14 (0, [some (.inr (.inl 9)), some (.inr (.inl 1)), some (.inl ax), some (.inl ce), none, none], [], mW (n, T, h, t, (ry, ft, im, en, br, hl)) M, 0, 0) _
  refine m_run 2 (ps' := (2, [some (.inr (.inl 9)), some (.inr (.inl 1)), some (.inl ax), some (.inl ce), none, none], [.inr (.inl 1), .inr (.inl 9)], mW (n, T, h, t, (ry, ft, im, en, br, hl)) M, 0, 0)) rfl ?_
  refine m_callVF [] [.inr (.inl 9)] rfl rfl ⟨_, rfl, rfl⟩ rfl rfl (k_pts hR) ?_
  have zt1 : NP n = n * n + n + 1 := rfl
  show m_Sem X 14 (5, [some (.inr (.inl 9)), some (.inr (.inl 1)), some (.inl ax), some (.inl ce), none, none], [.inl (NP n), .inr (.inl 9)], mW (n, T, h, t, (ry, ft, im, en, br, hl)) M, 0, 0) _
  refine m_run 3 (ps' := (11, [some (.inr (.inl 9)), some (.inr (.inl 1)), some (.inl ax), some (.inl ce), some (.inl 0), none], [], mW (n, T, h, t, (ry, ft, im, (NP n), br, hl)) M, 0, 0)) rfl ?_
  refine m_weak [some (.inr (.inl 9)), some (.inr (.inl 1)), some (.inl ax), some (.inl ce), some (.inl 0), none] ⟨rfl, ⟨rfl, ⟨rfl, ⟨rfl, ⟨rfl, trivial⟩⟩⟩⟩⟩ ?_
  exact l_lr hR hax hce 0 (by omega) (by omega) ry im (fun p h1 h2 => absurd h2 (by omega))
def footX (n : Int) (tb : Int → Int → Int) (ry : Int → Int) (ax ba br hl p : Int) : Int := if ry p = -1 then -1 else mtC n tb (lnC n tb (if ry p = br then hl else ba) p) ax
set_option maxHeartbeats 4000000 in
set_option maxRecDepth 100000 in
theorem l_lf {X : Nat × Nat × (Nat → Int32)} {n : Int} {T : Int → Int} {h : HS} {t : TS} {ry im : Int → Int} {br hl : Int} {M : MS} {tb : Int → Int → Int} {ax ba : Int} (hR : repC n T tb) (hax : m_R ax) (hba : ba = -1 ∨ (0 ≤ ba ∧ ba < NP n)) (hbr : br = -1 ∨ (0 ≤ br ∧ br < NP n)) (hhl : hl = -1 ∨ (0 ≤ hl ∧ hl < NP n)) (hry : rayOk n ry) : ∀ iv : Int, 0 ≤ iv → iv ≤ (NP n) → ∀ (ft : Int → Int) (hf : ∀ p, 0 ≤ p → p < iv → ft p = footX n tb ry ax ba br hl p), m_Sem X 15 (30, [some (.inr (.inl 9)), some (.inr (.inl 1)), some (.inl ax), some (.inl ba), some (.inl iv), none], [], mW (n, T, h, t, (ry, ft, im, (NP n), br, hl)) M, 0, 0) (fun r w => r = none ∧ ∃ ft2, w = mW (n, T, h, t, (ry, ft2, im, NP n, br, hl)) M ∧ ∀ p, 0 ≤ p → p < NP n → ft2 p = footX n tb ry ax ba br hl p) := by
  have hn := hR.1
  have hln := okN_lo hn
  have hq := sq_b hn
  have hnp : NP n = n * n + n + 1 := rfl
  refine m_down 0 (NP n) ?_ ?_
  · intro ft hf
    show m_Sem X 15 (30, [some (.inr (.inl 9)), some (.inr (.inl 1)), some (.inl ax), some (.inl ba), some (.inl (NP n)), none], [], mW (n, T, h, t, (ry, ft, im, (NP n), br, hl)) M, 0, 0) _
    refine m_run 3 (ps' := (36, [some (.inr (.inl 9)), some (.inr (.inl 1)), some (.inl ax), some (.inl ba), some (.inl (NP n)), none], [.inl (NP n), .inl (NP n)], mW (n, T, h, t, (ry, ft, im, (NP n), br, hl)) M, 0, 0)) rfl ?_
    refine m_icmp rfl ⟨by omega, by omega⟩ ⟨by omega, by omega⟩ (fun (zc1 : (NP n) ≤ (NP n)) => ?_) (fun (zc1 : ¬ (NP n) ≤ (NP n)) => absurd zc1 (not_not_intro (by omega)))
    exact m_ret0 rfl rfl rfl (⟨rfl, ft, rfl, hf⟩)
  · intro iv hi1 hi2 ih ft hf
    have hr0 := hry iv hi1 hi2
    refine m_run 3 (ps' := (36, [some (.inr (.inl 9)), some (.inr (.inl 1)), some (.inl ax), some (.inl ba), some (.inl iv), none], [.inl (NP n), .inl iv], mW (n, T, h, t, (ry, ft, im, (NP n), br, hl)) M, 0, 0)) rfl ?_
    refine m_icmp rfl ⟨by omega, by omega⟩ ⟨by omega, by omega⟩ (fun (zc1 : (NP n) ≤ iv) => absurd zc1 (by omega)) (fun (zc1 : ¬ (NP n) ≤ iv) => ?_)
    refine m_run 2 (ps' := (43, [some (.inr (.inl 9)), some (.inr (.inl 1)), some (.inl ax), some (.inl ba), some (.inl iv), none], [.inl 91, .inl iv], mW (n, T, h, t, (ry, ft, im, (NP n), br, hl)) M, 0, 0)) rfl ?_
    refine m_icmp rfl ⟨by omega, by omega⟩ ⟨by omega, by omega⟩ (fun (zc2 : 91 ≤ iv) => absurd zc2 (by omega)) (fun (zc2 : ¬ 91 ≤ iv) => ?_)
    refine m_run 3 (ps' := (52, [some (.inr (.inl 9)), some (.inr (.inl 1)), some (.inl ax), some (.inl ba), some (.inl iv), none], [.inl iv, .inr (.inl 10)], mW (n, T, h, t, (ry, ft, im, (NP n), br, hl)) M, 0, 0)) rfl ?_
    refine m_iald rfl rfl (by omega) (by omega) (by decide) ?_
    refine m_run 2 (ps' := (57, [some (.inr (.inl 9)), some (.inr (.inl 1)), some (.inl ax), some (.inl ba), some (.inl iv), none], [.inl br, .inl (ry iv)], mW (n, T, h, t, (ry, ft, im, (NP n), br, hl)) M, 0, 0)) rfl ?_
    refine m_icmp rfl ⟨by omega, by omega⟩ ⟨by omega, by omega⟩ (fun (zc3 : ¬ (ry iv) = br) => ?_) (fun (zc3 : ¬ ¬ (ry iv) = br) => ?_)
    · refine m_run 8 (ps' := (82, [some (.inr (.inl 9)), some (.inr (.inl 1)), some (.inl ax), some (.inl ba), some (.inl iv), some (.inl ba)], [.inl iv, .inr (.inl 10), .inl iv, .inr (.inl 11)], mW (n, T, h, t, (ry, ft, im, (NP n), br, hl)) M, 0, 0)) rfl ?_
      refine m_iald rfl rfl (by omega) (by omega) (by decide) ?_
      refine m_run 1 (ps' := (84, [some (.inr (.inl 9)), some (.inr (.inl 1)), some (.inl ax), some (.inl ba), some (.inl iv), some (.inl ba)], [.inl (-1), .inl (ry iv), .inl iv, .inr (.inl 11)], mW (n, T, h, t, (ry, ft, im, (NP n), br, hl)) M, 0, 0)) rfl ?_
      refine m_icmp rfl ⟨by omega, by omega⟩ ⟨by omega, by omega⟩ (fun (zc4 : ¬ (ry iv) = (-1)) => ?_) (fun (zc4 : ¬ ¬ (ry iv) = (-1)) => ?_)
      · refine m_run 4 (ps' := (97, [some (.inr (.inl 9)), some (.inr (.inl 1)), some (.inl ax), some (.inl ba), some (.inl iv), some (.inl ba)], [.inl iv, .inl ba, .inr (.inl 1), .inr (.inl 1), .inl iv, .inr (.inl 11)], mW (n, T, h, t, (ry, ft, im, (NP n), br, hl)) M, 0, 0)) rfl ?_
        refine m_callVF [.inl ba, .inl iv] [.inr (.inl 1), .inl iv, .inr (.inl 11)] rfl rfl ⟨_, rfl, rfl⟩ rfl rfl (k_ln (p := ba) (q := iv) hR ⟨by omega, by omega⟩ ⟨by omega, by omega⟩) ?_
        have zt1 := lnC_in (n := n) (tb := tb) (p := ba) (q := iv)
        unfold NP at zt1
        show m_Sem X 15 (100, [some (.inr (.inl 9)), some (.inr (.inl 1)), some (.inl ax), some (.inl ba), some (.inl iv), some (.inl ba)], [.inl (lnC n tb ba iv), .inr (.inl 1), .inl iv, .inr (.inl 11)], mW (n, T, h, t, (ry, ft, im, (NP n), br, hl)) M, 0, 0) _
        refine m_run 1 (ps' := (101, [some (.inr (.inl 9)), some (.inr (.inl 1)), some (.inl ax), some (.inl ba), some (.inl iv), some (.inl ba)], [.inl ax, .inl (lnC n tb ba iv), .inr (.inl 1), .inl iv, .inr (.inl 11)], mW (n, T, h, t, (ry, ft, im, (NP n), br, hl)) M, 0, 0)) rfl ?_
        refine m_callVF [.inl (lnC n tb ba iv), .inl ax] [.inl iv, .inr (.inl 11)] rfl rfl ⟨_, rfl, rfl⟩ rfl rfl (k_mt (p := (lnC n tb ba iv)) (q := ax) hR ⟨by omega, by omega⟩ hax) ?_
        have zt2 := mtC_in (n := n) (tb := tb) (p := (lnC n tb ba iv)) (q := ax)
        unfold NP at zt2
        show m_Sem X 15 (104, [some (.inr (.inl 9)), some (.inr (.inl 1)), some (.inl ax), some (.inl ba), some (.inl iv), some (.inl ba)], [.inl (mtC n tb (lnC n tb ba iv) ax), .inl iv, .inr (.inl 11)], mW (n, T, h, t, (ry, ft, im, (NP n), br, hl)) M, 0, 0) _
        refine m_iast rfl rfl (by omega) (by omega) (by decide) ?_
        show m_Sem X 15 (105, [some (.inr (.inl 9)), some (.inr (.inl 1)), some (.inl ax), some (.inl ba), some (.inl iv), some (.inl ba)], [], mW (n, T, h, t, (ry, (m_up ft iv (mtC n tb (lnC n tb ba iv) ax)), im, (NP n), br, hl)) M, 0, 0) _
        refine m_run 2 (ps' := (30, [some (.inr (.inl 9)), some (.inr (.inl 1)), some (.inl ax), some (.inl ba), some (.inl (iv + 1)), some (.inl ba)], [], mW (n, T, h, t, (ry, (m_up ft iv (mtC n tb (lnC n tb ba iv) ax)), im, (NP n), br, hl)) M, 0, 0)) rfl ?_
        refine m_weak [some (.inr (.inl 9)), some (.inr (.inl 1)), some (.inl ax), some (.inl ba), some (.inl (iv + 1)), none] ⟨rfl, ⟨rfl, ⟨rfl, ⟨rfl, ⟨rfl, trivial⟩⟩⟩⟩⟩ ?_
        refine ih _ (fun p h1 h2 => ?_)
        by_cases hpi : p = iv
        · subst hpi
          rw [m_up_s]
          unfold footX
          (repeat' split) <;> first | rfl | (exfalso; omega) | omega | simp_all
        · rw [m_up_n _ _ hpi]
          exact hf p h1 (by omega)
      · replace zc4 : (ry iv) = (-1) := Decidable.not_not.mp zc4
        refine m_run 2 (ps' := (104, [some (.inr (.inl 9)), some (.inr (.inl 1)), some (.inl ax), some (.inl ba), some (.inl iv), some (.inl ba)], [.inl (-1), .inl iv, .inr (.inl 11)], mW (n, T, h, t, (ry, ft, im, (NP n), br, hl)) M, 0, 0)) rfl ?_
        refine m_iast rfl rfl (by omega) (by omega) (by decide) ?_
        show m_Sem X 15 (105, [some (.inr (.inl 9)), some (.inr (.inl 1)), some (.inl ax), some (.inl ba), some (.inl iv), some (.inl ba)], [], mW (n, T, h, t, (ry, (m_up ft iv (-1)), im, (NP n), br, hl)) M, 0, 0) _
        refine m_run 2 (ps' := (30, [some (.inr (.inl 9)), some (.inr (.inl 1)), some (.inl ax), some (.inl ba), some (.inl (iv + 1)), some (.inl ba)], [], mW (n, T, h, t, (ry, (m_up ft iv (-1)), im, (NP n), br, hl)) M, 0, 0)) rfl ?_
        refine m_weak [some (.inr (.inl 9)), some (.inr (.inl 1)), some (.inl ax), some (.inl ba), some (.inl (iv + 1)), none] ⟨rfl, ⟨rfl, ⟨rfl, ⟨rfl, ⟨rfl, trivial⟩⟩⟩⟩⟩ ?_
        refine ih _ (fun p h1 h2 => ?_)
        by_cases hpi : p = iv
        · subst hpi
          rw [m_up_s]
          unfold footX
          (repeat' split) <;> first | rfl | (exfalso; omega) | omega | simp_all
        · rw [m_up_n _ _ hpi]
          exact hf p h1 (by omega)
    · replace zc3 : (ry iv) = br := Decidable.not_not.mp zc3
      refine m_run 10 (ps' := (82, [some (.inr (.inl 9)), some (.inr (.inl 1)), some (.inl ax), some (.inl ba), some (.inl iv), some (.inl hl)], [.inl iv, .inr (.inl 10), .inl iv, .inr (.inl 11)], mW (n, T, h, t, (ry, ft, im, (NP n), br, hl)) M, 0, 0)) rfl ?_
      refine m_iald rfl rfl (by omega) (by omega) (by decide) ?_
      refine m_run 1 (ps' := (84, [some (.inr (.inl 9)), some (.inr (.inl 1)), some (.inl ax), some (.inl ba), some (.inl iv), some (.inl hl)], [.inl (-1), .inl (ry iv), .inl iv, .inr (.inl 11)], mW (n, T, h, t, (ry, ft, im, (NP n), br, hl)) M, 0, 0)) rfl ?_
      refine m_icmp rfl ⟨by omega, by omega⟩ ⟨by omega, by omega⟩ (fun (zc4 : ¬ (ry iv) = (-1)) => ?_) (fun (zc4 : ¬ ¬ (ry iv) = (-1)) => ?_)
      · refine m_run 4 (ps' := (97, [some (.inr (.inl 9)), some (.inr (.inl 1)), some (.inl ax), some (.inl ba), some (.inl iv), some (.inl hl)], [.inl iv, .inl hl, .inr (.inl 1), .inr (.inl 1), .inl iv, .inr (.inl 11)], mW (n, T, h, t, (ry, ft, im, (NP n), br, hl)) M, 0, 0)) rfl ?_
        refine m_callVF [.inl hl, .inl iv] [.inr (.inl 1), .inl iv, .inr (.inl 11)] rfl rfl ⟨_, rfl, rfl⟩ rfl rfl (k_ln (p := hl) (q := iv) hR ⟨by omega, by omega⟩ ⟨by omega, by omega⟩) ?_
        have zt1 := lnC_in (n := n) (tb := tb) (p := hl) (q := iv)
        unfold NP at zt1
        show m_Sem X 15 (100, [some (.inr (.inl 9)), some (.inr (.inl 1)), some (.inl ax), some (.inl ba), some (.inl iv), some (.inl hl)], [.inl (lnC n tb hl iv), .inr (.inl 1), .inl iv, .inr (.inl 11)], mW (n, T, h, t, (ry, ft, im, (NP n), br, hl)) M, 0, 0) _
        refine m_run 1 (ps' := (101, [some (.inr (.inl 9)), some (.inr (.inl 1)), some (.inl ax), some (.inl ba), some (.inl iv), some (.inl hl)], [.inl ax, .inl (lnC n tb hl iv), .inr (.inl 1), .inl iv, .inr (.inl 11)], mW (n, T, h, t, (ry, ft, im, (NP n), br, hl)) M, 0, 0)) rfl ?_
        refine m_callVF [.inl (lnC n tb hl iv), .inl ax] [.inl iv, .inr (.inl 11)] rfl rfl ⟨_, rfl, rfl⟩ rfl rfl (k_mt (p := (lnC n tb hl iv)) (q := ax) hR ⟨by omega, by omega⟩ hax) ?_
        have zt2 := mtC_in (n := n) (tb := tb) (p := (lnC n tb hl iv)) (q := ax)
        unfold NP at zt2
        show m_Sem X 15 (104, [some (.inr (.inl 9)), some (.inr (.inl 1)), some (.inl ax), some (.inl ba), some (.inl iv), some (.inl hl)], [.inl (mtC n tb (lnC n tb hl iv) ax), .inl iv, .inr (.inl 11)], mW (n, T, h, t, (ry, ft, im, (NP n), br, hl)) M, 0, 0) _
        refine m_iast rfl rfl (by omega) (by omega) (by decide) ?_
        show m_Sem X 15 (105, [some (.inr (.inl 9)), some (.inr (.inl 1)), some (.inl ax), some (.inl ba), some (.inl iv), some (.inl hl)], [], mW (n, T, h, t, (ry, (m_up ft iv (mtC n tb (lnC n tb hl iv) ax)), im, (NP n), br, hl)) M, 0, 0) _
        refine m_run 2 (ps' := (30, [some (.inr (.inl 9)), some (.inr (.inl 1)), some (.inl ax), some (.inl ba), some (.inl (iv + 1)), some (.inl hl)], [], mW (n, T, h, t, (ry, (m_up ft iv (mtC n tb (lnC n tb hl iv) ax)), im, (NP n), br, hl)) M, 0, 0)) rfl ?_
        refine m_weak [some (.inr (.inl 9)), some (.inr (.inl 1)), some (.inl ax), some (.inl ba), some (.inl (iv + 1)), none] ⟨rfl, ⟨rfl, ⟨rfl, ⟨rfl, ⟨rfl, trivial⟩⟩⟩⟩⟩ ?_
        refine ih _ (fun p h1 h2 => ?_)
        by_cases hpi : p = iv
        · subst hpi
          rw [m_up_s]
          unfold footX
          (repeat' split) <;> first | rfl | (exfalso; omega) | omega | simp_all
        · rw [m_up_n _ _ hpi]
          exact hf p h1 (by omega)
      · replace zc4 : (ry iv) = (-1) := Decidable.not_not.mp zc4
        refine m_run 2 (ps' := (104, [some (.inr (.inl 9)), some (.inr (.inl 1)), some (.inl ax), some (.inl ba), some (.inl iv), some (.inl hl)], [.inl (-1), .inl iv, .inr (.inl 11)], mW (n, T, h, t, (ry, ft, im, (NP n), br, hl)) M, 0, 0)) rfl ?_
        refine m_iast rfl rfl (by omega) (by omega) (by decide) ?_
        show m_Sem X 15 (105, [some (.inr (.inl 9)), some (.inr (.inl 1)), some (.inl ax), some (.inl ba), some (.inl iv), some (.inl hl)], [], mW (n, T, h, t, (ry, (m_up ft iv (-1)), im, (NP n), br, hl)) M, 0, 0) _
        refine m_run 2 (ps' := (30, [some (.inr (.inl 9)), some (.inr (.inl 1)), some (.inl ax), some (.inl ba), some (.inl (iv + 1)), some (.inl hl)], [], mW (n, T, h, t, (ry, (m_up ft iv (-1)), im, (NP n), br, hl)) M, 0, 0)) rfl ?_
        refine m_weak [some (.inr (.inl 9)), some (.inr (.inl 1)), some (.inl ax), some (.inl ba), some (.inl (iv + 1)), none] ⟨rfl, ⟨rfl, ⟨rfl, ⟨rfl, ⟨rfl, trivial⟩⟩⟩⟩⟩ ?_
        refine ih _ (fun p h1 h2 => ?_)
        by_cases hpi : p = iv
        · subst hpi
          rw [m_up_s]
          unfold footX
          (repeat' split) <;> first | rfl | (exfalso; omega) | omega | simp_all
        · rw [m_up_n _ _ hpi]
          exact hf p h1 (by omega)
theorem rgR_in {n p : Int} {ry : Int → Int} (hn : okN n) (hry : rayOk n ry) (h : p = -1 ∨ (0 ≤ p ∧ p < NP n)) : rgS ry p = -1 ∨ (0 ≤ rgS ry p ∧ rgS ry p < NP n) := by
  have hq := sq_b hn
  have hl := okN_lo hn
  have hnp : NP n = n * n + n + 1 := rfl
  rcases h with rfl | ⟨h1, h2⟩
  · exact Or.inl rfl
  · rw [rgS_at h1 (by omega)]
    exact hry p h1 h2
set_option maxHeartbeats 4000000 in
set_option maxRecDepth 100000 in
theorem k_lf {X : Nat × Nat × (Nat → Int32)} {n : Int} {T : Int → Int} {h : HS} {t : TS} {ry ft im : Int → Int} {br hl : Int} {M : MS} {tb : Int → Int → Int} {ax : Int} (hR : repC n T tb) (hax : m_R ax) (hry : rayOk n ry) : m_Run X 15 [.inr (.inl 9), .inr (.inl 1), .inl ax] (mW (n, T, h, t, (ry, ft, im, (NP n), br, hl)) M) (fun r w => r = none ∧ ∃ ft2, w = mW (n, T, h, t, (ry, ft2, im, NP n, rgS ry (loS n ry (-1)), loS n ry (rgS ry (loS n ry (-1))))) M ∧ ∀ p, 0 ≤ p → p < NP n → ft2 p = footX n tb ry ax (loS n ry (-1)) (rgS ry (loS n ry (-1))) (loS n ry (rgS ry (loS n ry (-1)))) p) := by
  have hn := hR.1
  have hln := okN_lo hn
  have hq := sq_b hn
  have hnp : NP n = n * n + n + 1 := rfl
  have e1 := loS_in (n := n) (lo := -1) (ry := ry) hn
  have e2 := rgR_in hn hry e1
  have e3 := loS_in (n := n) (lo := rgS ry (loS n ry (-1))) (ry := ry) hn
  show m_Sem X 15 (0, [some (.inr (.inl 9)), some (.inr (.inl 1)), some (.inl ax), none, none, none], [], mW (n, T, h, t, (ry, ft, im, (NP n), br, hl)) M, 0, 0) _
  refine m_run 2 (ps' := (2, [some (.inr (.inl 9)), some (.inr (.inl 1)), some (.inl ax), none, none, none], [.inl (-1), .inr (.inl 9)], mW (n, T, h, t, (ry, ft, im, (NP n), br, hl)) M, 0, 0)) rfl ?_
  refine m_callVF [.inl (-1)] [] rfl rfl ⟨_, rfl, rfl⟩ rfl rfl (k_lo (lo := (-1)) hR ⟨by omega, by omega⟩ hry) ?_
  have zt1 := loS_in (n := n) (lo := (-1)) (ry := ry) hn
  show m_Sem X 15 (5, [some (.inr (.inl 9)), some (.inr (.inl 1)), some (.inl ax), none, none, none], [.inl (loS n ry (-1))], mW (n, T, h, t, (ry, ft, im, (NP n), br, hl)) M, 0, 0) _
  refine m_run 4 (ps' := (9, [some (.inr (.inl 9)), some (.inr (.inl 1)), some (.inl ax), some (.inl (loS n ry (-1))), none, none], [.inl (loS n ry (-1)), .inr (.inl 9), .inr (.inl 9)], mW (n, T, h, t, (ry, ft, im, (NP n), br, hl)) M, 0, 0)) rfl ?_
  refine m_callVF [.inl (loS n ry (-1))] [.inr (.inl 9)] rfl rfl ⟨_, rfl, rfl⟩ rfl rfl (k_ray (p := (loS n ry (-1))) ⟨by omega, by omega⟩) ?_
  show m_Sem X 15 (12, [some (.inr (.inl 9)), some (.inr (.inl 1)), some (.inl ax), some (.inl (loS n ry (-1))), none, none], [.inl (rgS ry (loS n ry (-1))), .inr (.inl 9)], mW (n, T, h, t, (ry, ft, im, (NP n), br, hl)) M, 0, 0) _
  refine m_run 5 (ps' := (21, [some (.inr (.inl 9)), some (.inr (.inl 1)), some (.inl ax), some (.inl (loS n ry (-1))), none, none], [.inl (rgS ry (loS n ry (-1))), .inr (.inl 9), .inr (.inl 9)], mW (n, T, h, t, (ry, ft, im, (NP n), (rgS ry (loS n ry (-1))), hl)) M, 0, 0)) rfl ?_
  refine m_callVF [.inl (rgS ry (loS n ry (-1)))] [.inr (.inl 9)] rfl rfl ⟨_, rfl, rfl⟩ rfl rfl (k_lo (lo := (rgS ry (loS n ry (-1)))) hR ⟨by omega, by omega⟩ hry) ?_
  have zt2 := loS_in (n := n) (lo := (rgS ry (loS n ry (-1)))) (ry := ry) hn
  show m_Sem X 15 (24, [some (.inr (.inl 9)), some (.inr (.inl 1)), some (.inl ax), some (.inl (loS n ry (-1))), none, none], [.inl (loS n ry (rgS ry (loS n ry (-1)))), .inr (.inl 9)], mW (n, T, h, t, (ry, ft, im, (NP n), (rgS ry (loS n ry (-1))), hl)) M, 0, 0) _
  refine m_run 3 (ps' := (30, [some (.inr (.inl 9)), some (.inr (.inl 1)), some (.inl ax), some (.inl (loS n ry (-1))), some (.inl 0), none], [], mW (n, T, h, t, (ry, ft, im, (NP n), (rgS ry (loS n ry (-1))), (loS n ry (rgS ry (loS n ry (-1)))))) M, 0, 0)) rfl ?_
  refine m_weak [some (.inr (.inl 9)), some (.inr (.inl 1)), some (.inl ax), some (.inl (loS n ry (-1))), some (.inl 0), none] ⟨rfl, ⟨rfl, ⟨rfl, ⟨rfl, ⟨rfl, trivial⟩⟩⟩⟩⟩ ?_
  exact l_lf hR hax e1 e2 e3 hry 0 (by omega) (by omega) ft (fun p h1 h2 => absurd h2 (by omega))
def leadX (n : Int) (tb : Int → Int → Int) (ry ft im : Int → Int) (br sf : Int) (on : Bool) (p : Int) : Int := if ry p = -1 then im p else if decide (ry p = br) = on then mtC n tb (ry p) (lnC n tb (ft p) sf) else im p
set_option maxHeartbeats 4000000 in
set_option maxRecDepth 100000 in
theorem l_ld1 {X : Nat × Nat × (Nat → Int32)} {n : Int} {T : Int → Int} {h : HS} {t : TS} {ry ft : Int → Int} {br hl : Int} {M : MS} {tb : Int → Int → Int} {im0 : Int → Int} {sf : Int} (hR : repC n T tb) (hsf : m_R sf) (hbr : br = -1 ∨ (0 ≤ br ∧ br < NP n)) (hry : rayOk n ry) (hft : rayOk n ft) : ∀ iv : Int, 0 ≤ iv → iv ≤ (NP n) → ∀ (im : Int → Int) (hf : ∀ p, 0 ≤ p → p < NP n → im p = if p < iv then leadX n tb ry ft im0 br sf true p else im0 p), m_Sem X 20 (3, [some (.inr (.inl 9)), some (.inr (.inl 1)), some (.inl 1), some (.inl sf), some (.inl iv)], [], mW (n, T, h, t, (ry, ft, im, (NP n), br, hl)) M, 0, 0) (fun r w => r = none ∧ ∃ im2, w = mW (n, T, h, t, (ry, ft, im2, NP n, br, hl)) M ∧ ∀ p, 0 ≤ p → p < NP n → im2 p = leadX n tb ry ft im0 br sf true p) := by
  have hn := hR.1
  have hln := okN_lo hn
  have hq := sq_b hn
  have hnp : NP n = n * n + n + 1 := rfl
  refine m_down 0 (NP n) ?_ ?_
  · intro im hf
    show m_Sem X 20 (3, [some (.inr (.inl 9)), some (.inr (.inl 1)), some (.inl 1), some (.inl sf), some (.inl (NP n))], [], mW (n, T, h, t, (ry, ft, im, (NP n), br, hl)) M, 0, 0) _
    refine m_run 3 (ps' := (9, [some (.inr (.inl 9)), some (.inr (.inl 1)), some (.inl 1), some (.inl sf), some (.inl (NP n))], [.inl (NP n), .inl (NP n)], mW (n, T, h, t, (ry, ft, im, (NP n), br, hl)) M, 0, 0)) rfl ?_
    refine m_icmp rfl ⟨by omega, by omega⟩ ⟨by omega, by omega⟩ (fun (zc1 : (NP n) ≤ (NP n)) => ?_) (fun (zc1 : ¬ (NP n) ≤ (NP n)) => absurd zc1 (not_not_intro (by omega)))
    exact m_ret0 rfl rfl rfl (⟨rfl, im, rfl, fun p h1 h2 => by rw [hf p h1 h2, if_pos h2]⟩)
  · intro iv hi1 hi2 ih im hf
    have hr0 := hry iv hi1 hi2
    have hr1 := hft iv hi1 hi2
    refine m_run 3 (ps' := (9, [some (.inr (.inl 9)), some (.inr (.inl 1)), some (.inl 1), some (.inl sf), some (.inl iv)], [.inl (NP n), .inl iv], mW (n, T, h, t, (ry, ft, im, (NP n), br, hl)) M, 0, 0)) rfl ?_
    refine m_icmp rfl ⟨by omega, by omega⟩ ⟨by omega, by omega⟩ (fun (zc1 : (NP n) ≤ iv) => absurd zc1 (by omega)) (fun (zc1 : ¬ (NP n) ≤ iv) => ?_)
    refine m_run 2 (ps' := (16, [some (.inr (.inl 9)), some (.inr (.inl 1)), some (.inl 1), some (.inl sf), some (.inl iv)], [.inl 91, .inl iv], mW (n, T, h, t, (ry, ft, im, (NP n), br, hl)) M, 0, 0)) rfl ?_
    refine m_icmp rfl ⟨by omega, by omega⟩ ⟨by omega, by omega⟩ (fun (zc2 : 91 ≤ iv) => absurd zc2 (by omega)) (fun (zc2 : ¬ 91 ≤ iv) => ?_)
    refine m_run 3 (ps' := (25, [some (.inr (.inl 9)), some (.inr (.inl 1)), some (.inl 1), some (.inl sf), some (.inl iv)], [.inl iv, .inr (.inl 10)], mW (n, T, h, t, (ry, ft, im, (NP n), br, hl)) M, 0, 0)) rfl ?_
    refine m_iald rfl rfl (by omega) (by omega) (by decide) ?_
    refine m_run 1 (ps' := (27, [some (.inr (.inl 9)), some (.inr (.inl 1)), some (.inl 1), some (.inl sf), some (.inl iv)], [.inl (-1), .inl (ry iv)], mW (n, T, h, t, (ry, ft, im, (NP n), br, hl)) M, 0, 0)) rfl ?_
    refine m_icmp rfl ⟨by omega, by omega⟩ ⟨by omega, by omega⟩ (fun (zc3 : (ry iv) = (-1)) => ?_) (fun (zc3 : ¬ (ry iv) = (-1)) => ?_)
    · refine m_run 2 (ps' := (3, [some (.inr (.inl 9)), some (.inr (.inl 1)), some (.inl 1), some (.inl sf), some (.inl (iv + 1))], [], mW (n, T, h, t, (ry, ft, im, (NP n), br, hl)) M, 0, 0)) rfl ?_
      refine m_weak [some (.inr (.inl 9)), some (.inr (.inl 1)), some (.inl 1), some (.inl sf), some (.inl (iv + 1))] ⟨rfl, ⟨rfl, ⟨rfl, ⟨rfl, ⟨rfl, trivial⟩⟩⟩⟩⟩ ?_
      refine ih _ (fun p h1 h2 => ?_)
      by_cases hpi : p = iv
      · subst hpi
        rw [hf p h1 h2, if_neg (by omega), if_pos (by omega)]
        unfold leadX
        (repeat' split) <;> first | rfl | (exfalso; omega) | omega | simp_all
      · rw [hf p h1 h2]
        by_cases hc : p < iv
        · rw [if_pos hc, if_pos (by omega)]
        · rw [if_neg hc, if_neg (by omega)]
    · refine m_run 3 (ps' := (36, [some (.inr (.inl 9)), some (.inr (.inl 1)), some (.inl 1), some (.inl sf), some (.inl iv)], [.inl iv, .inr (.inl 10)], mW (n, T, h, t, (ry, ft, im, (NP n), br, hl)) M, 0, 0)) rfl ?_
      refine m_iald rfl rfl (by omega) (by omega) (by decide) ?_
      refine m_run 2 (ps' := (41, [some (.inr (.inl 9)), some (.inr (.inl 1)), some (.inl 1), some (.inl sf), some (.inl iv)], [.inl br, .inl (ry iv)], mW (n, T, h, t, (ry, ft, im, (NP n), br, hl)) M, 0, 0)) rfl ?_
      refine m_icmp rfl ⟨by omega, by omega⟩ ⟨by omega, by omega⟩ (fun (zc4 : ¬ (ry iv) = br) => ?_) (fun (zc4 : ¬ ¬ (ry iv) = br) => ?_)
      · refine m_run 2 (ps' := (50, [some (.inr (.inl 9)), some (.inr (.inl 1)), some (.inl 1), some (.inl sf), some (.inl iv)], [.inl 1, .inl 0], mW (n, T, h, t, (ry, ft, im, (NP n), br, hl)) M, 0, 0)) rfl ?_
        refine m_icmp rfl ⟨by omega, by omega⟩ ⟨by omega, by omega⟩ (fun (zc5 : ¬ 0 = 1) => ?_) (fun (zc5 : ¬ ¬ 0 = 1) => absurd zc5 (not_not_intro (by omega)))
        refine m_run 2 (ps' := (3, [some (.inr (.inl 9)), some (.inr (.inl 1)), some (.inl 1), some (.inl sf), some (.inl (iv + 1))], [], mW (n, T, h, t, (ry, ft, im, (NP n), br, hl)) M, 0, 0)) rfl ?_
        refine m_weak [some (.inr (.inl 9)), some (.inr (.inl 1)), some (.inl 1), some (.inl sf), some (.inl (iv + 1))] ⟨rfl, ⟨rfl, ⟨rfl, ⟨rfl, ⟨rfl, trivial⟩⟩⟩⟩⟩ ?_
        refine ih _ (fun p h1 h2 => ?_)
        by_cases hpi : p = iv
        · subst hpi
          rw [hf p h1 h2, if_neg (by omega), if_pos (by omega)]
          unfold leadX
          (repeat' split) <;> first | rfl | (exfalso; omega) | omega | simp_all
        · rw [hf p h1 h2]
          by_cases hc : p < iv
          · rw [if_pos hc, if_pos (by omega)]
          · rw [if_neg hc, if_neg (by omega)]
      · replace zc4 : (ry iv) = br := Decidable.not_not.mp zc4
        refine m_run 3 (ps' := (50, [some (.inr (.inl 9)), some (.inr (.inl 1)), some (.inl 1), some (.inl sf), some (.inl iv)], [.inl 1, .inl 1], mW (n, T, h, t, (ry, ft, im, (NP n), br, hl)) M, 0, 0)) rfl ?_
        refine m_icmp rfl ⟨by omega, by omega⟩ ⟨by omega, by omega⟩ (fun (zc5 : ¬ 1 = 1) => absurd zc5 (by omega)) (fun (zc5 : ¬ ¬ 1 = 1) => ?_)
        refine m_run 7 (ps' := (66, [some (.inr (.inl 9)), some (.inr (.inl 1)), some (.inl 1), some (.inl sf), some (.inl iv)], [.inl iv, .inr (.inl 10), .inr (.inl 1), .inl iv, .inr (.inl 12)], mW (n, T, h, t, (ry, ft, im, (NP n), br, hl)) M, 0, 0)) rfl ?_
        refine m_iald rfl rfl (by omega) (by omega) (by decide) ?_
        refine m_run 4 (ps' := (74, [some (.inr (.inl 9)), some (.inr (.inl 1)), some (.inl 1), some (.inl sf), some (.inl iv)], [.inl iv, .inr (.inl 11), .inr (.inl 1), .inl (ry iv), .inr (.inl 1), .inl iv, .inr (.inl 12)], mW (n, T, h, t, (ry, ft, im, (NP n), br, hl)) M, 0, 0)) rfl ?_
        refine m_iald rfl rfl (by omega) (by omega) (by decide) ?_
        refine m_run 1 (ps' := (76, [some (.inr (.inl 9)), some (.inr (.inl 1)), some (.inl 1), some (.inl sf), some (.inl iv)], [.inl sf, .inl (ft iv), .inr (.inl 1), .inl (ry iv), .inr (.inl 1), .inl iv, .inr (.inl 12)], mW (n, T, h, t, (ry, ft, im, (NP n), br, hl)) M, 0, 0)) rfl ?_
        refine m_callVF [.inl (ft iv), .inl sf] [.inl (ry iv), .inr (.inl 1), .inl iv, .inr (.inl 12)] rfl rfl ⟨_, rfl, rfl⟩ rfl rfl (k_ln (p := (ft iv)) (q := sf) hR ⟨by omega, by omega⟩ hsf) ?_
        have zt1 := lnC_in (n := n) (tb := tb) (p := (ft iv)) (q := sf)
        unfold NP at zt1
        show m_Sem X 20 (79, [some (.inr (.inl 9)), some (.inr (.inl 1)), some (.inl 1), some (.inl sf), some (.inl iv)], [.inl (lnC n tb (ft iv) sf), .inl (ry iv), .inr (.inl 1), .inl iv, .inr (.inl 12)], mW (n, T, h, t, (ry, ft, im, (NP n), br, hl)) M, 0, 0) _
        refine m_callVF [.inl (ry iv), .inl (lnC n tb (ft iv) sf)] [.inl iv, .inr (.inl 12)] rfl rfl ⟨_, rfl, rfl⟩ rfl rfl (k_mt (p := (ry iv)) (q := (lnC n tb (ft iv) sf)) hR ⟨by omega, by omega⟩ ⟨by omega, by omega⟩) ?_
        have zt2 := mtC_in (n := n) (tb := tb) (p := (ry iv)) (q := (lnC n tb (ft iv) sf))
        unfold NP at zt2
        show m_Sem X 20 (82, [some (.inr (.inl 9)), some (.inr (.inl 1)), some (.inl 1), some (.inl sf), some (.inl iv)], [.inl (mtC n tb (ry iv) (lnC n tb (ft iv) sf)), .inl iv, .inr (.inl 12)], mW (n, T, h, t, (ry, ft, im, (NP n), br, hl)) M, 0, 0) _
        refine m_iast rfl rfl (by omega) (by omega) (by decide) ?_
        show m_Sem X 20 (83, [some (.inr (.inl 9)), some (.inr (.inl 1)), some (.inl 1), some (.inl sf), some (.inl iv)], [], mW (n, T, h, t, (ry, ft, (m_up im iv (mtC n tb (ry iv) (lnC n tb (ft iv) sf))), (NP n), br, hl)) M, 0, 0) _
        refine m_run 2 (ps' := (3, [some (.inr (.inl 9)), some (.inr (.inl 1)), some (.inl 1), some (.inl sf), some (.inl (iv + 1))], [], mW (n, T, h, t, (ry, ft, (m_up im iv (mtC n tb (ry iv) (lnC n tb (ft iv) sf))), (NP n), br, hl)) M, 0, 0)) rfl ?_
        refine m_weak [some (.inr (.inl 9)), some (.inr (.inl 1)), some (.inl 1), some (.inl sf), some (.inl (iv + 1))] ⟨rfl, ⟨rfl, ⟨rfl, ⟨rfl, ⟨rfl, trivial⟩⟩⟩⟩⟩ ?_
        refine ih _ (fun p h1 h2 => ?_)
        by_cases hpi : p = iv
        · subst hpi
          rw [m_up_s, if_pos (by omega)]
          unfold leadX
          (repeat' split) <;> first | rfl | (exfalso; omega) | omega | simp_all
        · rw [m_up_n _ _ hpi, hf p h1 h2]
          by_cases hc : p < iv
          · rw [if_pos hc, if_pos (by omega)]
          · rw [if_neg hc, if_neg (by omega)]
set_option maxHeartbeats 4000000 in
set_option maxRecDepth 100000 in
theorem k_ld1 {X : Nat × Nat × (Nat → Int32)} {n : Int} {T : Int → Int} {h : HS} {t : TS} {ry ft im : Int → Int} {br hl : Int} {M : MS} {tb : Int → Int → Int} {sf : Int} (hR : repC n T tb) (hsf : m_R sf) (hbr : br = -1 ∨ (0 ≤ br ∧ br < NP n)) (hry : rayOk n ry) (hft : rayOk n ft) : m_Run X 20 [.inr (.inl 9), .inr (.inl 1), .inl 1, .inl sf] (mW (n, T, h, t, (ry, ft, im, (NP n), br, hl)) M) (fun r w => r = none ∧ ∃ im2, w = mW (n, T, h, t, (ry, ft, im2, NP n, br, hl)) M ∧ ∀ p, 0 ≤ p → p < NP n → im2 p = leadX n tb ry ft im br sf true p) := by
  have hn := hR.1
  have hln := okN_lo hn
  have hq := sq_b hn
  have hnp : NP n = n * n + n + 1 := rfl
  show m_Sem X 20 (0, [some (.inr (.inl 9)), some (.inr (.inl 1)), some (.inl 1), some (.inl sf), none], [], mW (n, T, h, t, (ry, ft, im, (NP n), br, hl)) M, 0, 0) _
  refine m_run 2 (ps' := (3, [some (.inr (.inl 9)), some (.inr (.inl 1)), some (.inl 1), some (.inl sf), some (.inl 0)], [], mW (n, T, h, t, (ry, ft, im, (NP n), br, hl)) M, 0, 0)) rfl ?_
  refine m_weak [some (.inr (.inl 9)), some (.inr (.inl 1)), some (.inl 1), some (.inl sf), some (.inl 0)] ⟨rfl, ⟨rfl, ⟨rfl, ⟨rfl, ⟨rfl, trivial⟩⟩⟩⟩⟩ ?_
  exact l_ld1 hR hsf hbr hry hft 0 (by omega) (by omega) im (fun p h1 h2 => by rw [if_neg (by omega)])
set_option maxHeartbeats 4000000 in
set_option maxRecDepth 100000 in
theorem l_ld0 {X : Nat × Nat × (Nat → Int32)} {n : Int} {T : Int → Int} {h : HS} {t : TS} {ry ft : Int → Int} {br hl : Int} {M : MS} {tb : Int → Int → Int} {im0 : Int → Int} {sf : Int} (hR : repC n T tb) (hsf : m_R sf) (hbr : br = -1 ∨ (0 ≤ br ∧ br < NP n)) (hry : rayOk n ry) (hft : rayOk n ft) : ∀ iv : Int, 0 ≤ iv → iv ≤ (NP n) → ∀ (im : Int → Int) (hf : ∀ p, 0 ≤ p → p < NP n → im p = if p < iv then leadX n tb ry ft im0 br sf false p else im0 p), m_Sem X 20 (3, [some (.inr (.inl 9)), some (.inr (.inl 1)), some (.inl 0), some (.inl sf), some (.inl iv)], [], mW (n, T, h, t, (ry, ft, im, (NP n), br, hl)) M, 0, 0) (fun r w => r = none ∧ ∃ im2, w = mW (n, T, h, t, (ry, ft, im2, NP n, br, hl)) M ∧ ∀ p, 0 ≤ p → p < NP n → im2 p = leadX n tb ry ft im0 br sf false p) := by
  have hn := hR.1
  have hln := okN_lo hn
  have hq := sq_b hn
  have hnp : NP n = n * n + n + 1 := rfl
  refine m_down 0 (NP n) ?_ ?_
  · intro im hf
    show m_Sem X 20 (3, [some (.inr (.inl 9)), some (.inr (.inl 1)), some (.inl 0), some (.inl sf), some (.inl (NP n))], [], mW (n, T, h, t, (ry, ft, im, (NP n), br, hl)) M, 0, 0) _
    refine m_run 3 (ps' := (9, [some (.inr (.inl 9)), some (.inr (.inl 1)), some (.inl 0), some (.inl sf), some (.inl (NP n))], [.inl (NP n), .inl (NP n)], mW (n, T, h, t, (ry, ft, im, (NP n), br, hl)) M, 0, 0)) rfl ?_
    refine m_icmp rfl ⟨by omega, by omega⟩ ⟨by omega, by omega⟩ (fun (zc1 : (NP n) ≤ (NP n)) => ?_) (fun (zc1 : ¬ (NP n) ≤ (NP n)) => absurd zc1 (not_not_intro (by omega)))
    exact m_ret0 rfl rfl rfl (⟨rfl, im, rfl, fun p h1 h2 => by rw [hf p h1 h2, if_pos h2]⟩)
  · intro iv hi1 hi2 ih im hf
    have hr0 := hry iv hi1 hi2
    have hr1 := hft iv hi1 hi2
    refine m_run 3 (ps' := (9, [some (.inr (.inl 9)), some (.inr (.inl 1)), some (.inl 0), some (.inl sf), some (.inl iv)], [.inl (NP n), .inl iv], mW (n, T, h, t, (ry, ft, im, (NP n), br, hl)) M, 0, 0)) rfl ?_
    refine m_icmp rfl ⟨by omega, by omega⟩ ⟨by omega, by omega⟩ (fun (zc1 : (NP n) ≤ iv) => absurd zc1 (by omega)) (fun (zc1 : ¬ (NP n) ≤ iv) => ?_)
    refine m_run 2 (ps' := (16, [some (.inr (.inl 9)), some (.inr (.inl 1)), some (.inl 0), some (.inl sf), some (.inl iv)], [.inl 91, .inl iv], mW (n, T, h, t, (ry, ft, im, (NP n), br, hl)) M, 0, 0)) rfl ?_
    refine m_icmp rfl ⟨by omega, by omega⟩ ⟨by omega, by omega⟩ (fun (zc2 : 91 ≤ iv) => absurd zc2 (by omega)) (fun (zc2 : ¬ 91 ≤ iv) => ?_)
    refine m_run 3 (ps' := (25, [some (.inr (.inl 9)), some (.inr (.inl 1)), some (.inl 0), some (.inl sf), some (.inl iv)], [.inl iv, .inr (.inl 10)], mW (n, T, h, t, (ry, ft, im, (NP n), br, hl)) M, 0, 0)) rfl ?_
    refine m_iald rfl rfl (by omega) (by omega) (by decide) ?_
    refine m_run 1 (ps' := (27, [some (.inr (.inl 9)), some (.inr (.inl 1)), some (.inl 0), some (.inl sf), some (.inl iv)], [.inl (-1), .inl (ry iv)], mW (n, T, h, t, (ry, ft, im, (NP n), br, hl)) M, 0, 0)) rfl ?_
    refine m_icmp rfl ⟨by omega, by omega⟩ ⟨by omega, by omega⟩ (fun (zc3 : (ry iv) = (-1)) => ?_) (fun (zc3 : ¬ (ry iv) = (-1)) => ?_)
    · refine m_run 2 (ps' := (3, [some (.inr (.inl 9)), some (.inr (.inl 1)), some (.inl 0), some (.inl sf), some (.inl (iv + 1))], [], mW (n, T, h, t, (ry, ft, im, (NP n), br, hl)) M, 0, 0)) rfl ?_
      refine m_weak [some (.inr (.inl 9)), some (.inr (.inl 1)), some (.inl 0), some (.inl sf), some (.inl (iv + 1))] ⟨rfl, ⟨rfl, ⟨rfl, ⟨rfl, ⟨rfl, trivial⟩⟩⟩⟩⟩ ?_
      refine ih _ (fun p h1 h2 => ?_)
      by_cases hpi : p = iv
      · subst hpi
        rw [hf p h1 h2, if_neg (by omega), if_pos (by omega)]
        unfold leadX
        (repeat' split) <;> first | rfl | (exfalso; omega) | omega | simp_all
      · rw [hf p h1 h2]
        by_cases hc : p < iv
        · rw [if_pos hc, if_pos (by omega)]
        · rw [if_neg hc, if_neg (by omega)]
    · refine m_run 3 (ps' := (36, [some (.inr (.inl 9)), some (.inr (.inl 1)), some (.inl 0), some (.inl sf), some (.inl iv)], [.inl iv, .inr (.inl 10)], mW (n, T, h, t, (ry, ft, im, (NP n), br, hl)) M, 0, 0)) rfl ?_
      refine m_iald rfl rfl (by omega) (by omega) (by decide) ?_
      refine m_run 2 (ps' := (41, [some (.inr (.inl 9)), some (.inr (.inl 1)), some (.inl 0), some (.inl sf), some (.inl iv)], [.inl br, .inl (ry iv)], mW (n, T, h, t, (ry, ft, im, (NP n), br, hl)) M, 0, 0)) rfl ?_
      refine m_icmp rfl ⟨by omega, by omega⟩ ⟨by omega, by omega⟩ (fun (zc4 : ¬ (ry iv) = br) => ?_) (fun (zc4 : ¬ ¬ (ry iv) = br) => ?_)
      · refine m_run 2 (ps' := (50, [some (.inr (.inl 9)), some (.inr (.inl 1)), some (.inl 0), some (.inl sf), some (.inl iv)], [.inl 0, .inl 0], mW (n, T, h, t, (ry, ft, im, (NP n), br, hl)) M, 0, 0)) rfl ?_
        refine m_icmp rfl ⟨by omega, by omega⟩ ⟨by omega, by omega⟩ (fun (zc5 : ¬ 0 = 0) => absurd zc5 (by omega)) (fun (zc5 : ¬ ¬ 0 = 0) => ?_)
        refine m_run 7 (ps' := (66, [some (.inr (.inl 9)), some (.inr (.inl 1)), some (.inl 0), some (.inl sf), some (.inl iv)], [.inl iv, .inr (.inl 10), .inr (.inl 1), .inl iv, .inr (.inl 12)], mW (n, T, h, t, (ry, ft, im, (NP n), br, hl)) M, 0, 0)) rfl ?_
        refine m_iald rfl rfl (by omega) (by omega) (by decide) ?_
        refine m_run 4 (ps' := (74, [some (.inr (.inl 9)), some (.inr (.inl 1)), some (.inl 0), some (.inl sf), some (.inl iv)], [.inl iv, .inr (.inl 11), .inr (.inl 1), .inl (ry iv), .inr (.inl 1), .inl iv, .inr (.inl 12)], mW (n, T, h, t, (ry, ft, im, (NP n), br, hl)) M, 0, 0)) rfl ?_
        refine m_iald rfl rfl (by omega) (by omega) (by decide) ?_
        refine m_run 1 (ps' := (76, [some (.inr (.inl 9)), some (.inr (.inl 1)), some (.inl 0), some (.inl sf), some (.inl iv)], [.inl sf, .inl (ft iv), .inr (.inl 1), .inl (ry iv), .inr (.inl 1), .inl iv, .inr (.inl 12)], mW (n, T, h, t, (ry, ft, im, (NP n), br, hl)) M, 0, 0)) rfl ?_
        refine m_callVF [.inl (ft iv), .inl sf] [.inl (ry iv), .inr (.inl 1), .inl iv, .inr (.inl 12)] rfl rfl ⟨_, rfl, rfl⟩ rfl rfl (k_ln (p := (ft iv)) (q := sf) hR ⟨by omega, by omega⟩ hsf) ?_
        have zt1 := lnC_in (n := n) (tb := tb) (p := (ft iv)) (q := sf)
        unfold NP at zt1
        show m_Sem X 20 (79, [some (.inr (.inl 9)), some (.inr (.inl 1)), some (.inl 0), some (.inl sf), some (.inl iv)], [.inl (lnC n tb (ft iv) sf), .inl (ry iv), .inr (.inl 1), .inl iv, .inr (.inl 12)], mW (n, T, h, t, (ry, ft, im, (NP n), br, hl)) M, 0, 0) _
        refine m_callVF [.inl (ry iv), .inl (lnC n tb (ft iv) sf)] [.inl iv, .inr (.inl 12)] rfl rfl ⟨_, rfl, rfl⟩ rfl rfl (k_mt (p := (ry iv)) (q := (lnC n tb (ft iv) sf)) hR ⟨by omega, by omega⟩ ⟨by omega, by omega⟩) ?_
        have zt2 := mtC_in (n := n) (tb := tb) (p := (ry iv)) (q := (lnC n tb (ft iv) sf))
        unfold NP at zt2
        show m_Sem X 20 (82, [some (.inr (.inl 9)), some (.inr (.inl 1)), some (.inl 0), some (.inl sf), some (.inl iv)], [.inl (mtC n tb (ry iv) (lnC n tb (ft iv) sf)), .inl iv, .inr (.inl 12)], mW (n, T, h, t, (ry, ft, im, (NP n), br, hl)) M, 0, 0) _
        refine m_iast rfl rfl (by omega) (by omega) (by decide) ?_
        show m_Sem X 20 (83, [some (.inr (.inl 9)), some (.inr (.inl 1)), some (.inl 0), some (.inl sf), some (.inl iv)], [], mW (n, T, h, t, (ry, ft, (m_up im iv (mtC n tb (ry iv) (lnC n tb (ft iv) sf))), (NP n), br, hl)) M, 0, 0) _
        refine m_run 2 (ps' := (3, [some (.inr (.inl 9)), some (.inr (.inl 1)), some (.inl 0), some (.inl sf), some (.inl (iv + 1))], [], mW (n, T, h, t, (ry, ft, (m_up im iv (mtC n tb (ry iv) (lnC n tb (ft iv) sf))), (NP n), br, hl)) M, 0, 0)) rfl ?_
        refine m_weak [some (.inr (.inl 9)), some (.inr (.inl 1)), some (.inl 0), some (.inl sf), some (.inl (iv + 1))] ⟨rfl, ⟨rfl, ⟨rfl, ⟨rfl, ⟨rfl, trivial⟩⟩⟩⟩⟩ ?_
        refine ih _ (fun p h1 h2 => ?_)
        by_cases hpi : p = iv
        · subst hpi
          rw [m_up_s, if_pos (by omega)]
          unfold leadX
          (repeat' split) <;> first | rfl | (exfalso; omega) | omega | simp_all
        · rw [m_up_n _ _ hpi, hf p h1 h2]
          by_cases hc : p < iv
          · rw [if_pos hc, if_pos (by omega)]
          · rw [if_neg hc, if_neg (by omega)]
      · replace zc4 : (ry iv) = br := Decidable.not_not.mp zc4
        refine m_run 3 (ps' := (50, [some (.inr (.inl 9)), some (.inr (.inl 1)), some (.inl 0), some (.inl sf), some (.inl iv)], [.inl 0, .inl 1], mW (n, T, h, t, (ry, ft, im, (NP n), br, hl)) M, 0, 0)) rfl ?_
        refine m_icmp rfl ⟨by omega, by omega⟩ ⟨by omega, by omega⟩ (fun (zc5 : ¬ 1 = 0) => ?_) (fun (zc5 : ¬ ¬ 1 = 0) => absurd zc5 (not_not_intro (by omega)))
        refine m_run 2 (ps' := (3, [some (.inr (.inl 9)), some (.inr (.inl 1)), some (.inl 0), some (.inl sf), some (.inl (iv + 1))], [], mW (n, T, h, t, (ry, ft, im, (NP n), br, hl)) M, 0, 0)) rfl ?_
        refine m_weak [some (.inr (.inl 9)), some (.inr (.inl 1)), some (.inl 0), some (.inl sf), some (.inl (iv + 1))] ⟨rfl, ⟨rfl, ⟨rfl, ⟨rfl, ⟨rfl, trivial⟩⟩⟩⟩⟩ ?_
        refine ih _ (fun p h1 h2 => ?_)
        by_cases hpi : p = iv
        · subst hpi
          rw [hf p h1 h2, if_neg (by omega), if_pos (by omega)]
          unfold leadX
          (repeat' split) <;> first | rfl | (exfalso; omega) | omega | simp_all
        · rw [hf p h1 h2]
          by_cases hc : p < iv
          · rw [if_pos hc, if_pos (by omega)]
          · rw [if_neg hc, if_neg (by omega)]
set_option maxHeartbeats 4000000 in
set_option maxRecDepth 100000 in
theorem k_ld0 {X : Nat × Nat × (Nat → Int32)} {n : Int} {T : Int → Int} {h : HS} {t : TS} {ry ft im : Int → Int} {br hl : Int} {M : MS} {tb : Int → Int → Int} {sf : Int} (hR : repC n T tb) (hsf : m_R sf) (hbr : br = -1 ∨ (0 ≤ br ∧ br < NP n)) (hry : rayOk n ry) (hft : rayOk n ft) : m_Run X 20 [.inr (.inl 9), .inr (.inl 1), .inl 0, .inl sf] (mW (n, T, h, t, (ry, ft, im, (NP n), br, hl)) M) (fun r w => r = none ∧ ∃ im2, w = mW (n, T, h, t, (ry, ft, im2, NP n, br, hl)) M ∧ ∀ p, 0 ≤ p → p < NP n → im2 p = leadX n tb ry ft im br sf false p) := by
  have hn := hR.1
  have hln := okN_lo hn
  have hq := sq_b hn
  have hnp : NP n = n * n + n + 1 := rfl
  show m_Sem X 20 (0, [some (.inr (.inl 9)), some (.inr (.inl 1)), some (.inl 0), some (.inl sf), none], [], mW (n, T, h, t, (ry, ft, im, (NP n), br, hl)) M, 0, 0) _
  refine m_run 2 (ps' := (3, [some (.inr (.inl 9)), some (.inr (.inl 1)), some (.inl 0), some (.inl sf), some (.inl 0)], [], mW (n, T, h, t, (ry, ft, im, (NP n), br, hl)) M, 0, 0)) rfl ?_
  refine m_weak [some (.inr (.inl 9)), some (.inr (.inl 1)), some (.inl 0), some (.inl sf), some (.inl 0)] ⟨rfl, ⟨rfl, ⟨rfl, ⟨rfl, ⟨rfl, trivial⟩⟩⟩⟩⟩ ?_
  exact l_ld0 hR hsf hbr hry hft 0 (by omega) (by omega) im (fun p h1 h2 => by rw [if_neg (by omega)])
def ldX (n : Int) (tb : Int → Int → Int) (im : Int → Int) (l : Int) : Bool := allF (fun i => onC n tb (rgS im (ptC n tb l i)) (lnC n tb (rgS im (ptC n tb l 0)) (rgS im (ptC n tb l 1)))) (n + 1 - 2).toNat 2
set_option maxHeartbeats 4000000 in
set_option maxRecDepth 100000 in
theorem l_ll {X : Nat × Nat × (Nat → Int32)} {n : Int} {T : Int → Int} {h : HS} {t : TS} {ry ft im : Int → Int} {en br hl : Int} {M : MS} {tb : Int → Int → Int} {l : Int} {o : Bool} (hR : repC n T tb) (hll : m_R l) (him : rayOk n im) : ∀ iv : Int, 2 ≤ iv → iv ≤ n + 1 → ∀ (ho : allF (fun i => onC n tb (rgS im (ptC n tb l i)) (lnC n tb (rgS im (ptC n tb l 0)) (rgS im (ptC n tb l 1)))) (n + 1 - iv).toNat iv = o), m_Sem X 21 (35, [some (.inr (.inl 9)), some (.inr (.inl 1)), some (.inl l), none, none, some (.inl (lnC n tb (rgS im (ptC n tb l 0)) (rgS im (ptC n tb l 1)))), some (.inl iv)], [], mW (n, T, h, t, (ry, ft, im, en, br, hl)) M, 0, 0) (m_V (bI o) (mW (n, T, h, t, (ry, ft, im, en, br, hl)) M)) := by
  have hn := hR.1
  have hln := okN_lo hn
  have hq := sq_b hn
  have hnp : NP n = n * n + n + 1 := rfl
  refine m_down 2 (n + 1) ?_ ?_
  · intro ho
    show m_Sem X 21 (35, [some (.inr (.inl 9)), some (.inr (.inl 1)), some (.inl l), none, none, some (.inl (lnC n tb (rgS im (ptC n tb l 0)) (rgS im (ptC n tb l 1)))), some (.inl (n + 1))], [], mW (n, T, h, t, (ry, ft, im, en, br, hl)) M, 0, 0) _
    refine m_run 4 (ps' := (44, [some (.inr (.inl 9)), some (.inr (.inl 1)), some (.inl l), none, none, some (.inl (lnC n tb (rgS im (ptC n tb l 0)) (rgS im (ptC n tb l 1)))), some (.inl (n + 1))], [.inl n, .inl (n + 1)], mW (n, T, h, t, (ry, ft, im, en, br, hl)) M, 0, 0)) rfl ?_
    refine m_icmp rfl ⟨by omega, by omega⟩ ⟨by omega, by omega⟩ (fun (zc1 : n < n + 1) => ?_) (fun (zc1 : ¬ n < n + 1) => absurd zc1 (not_not_intro (by omega)))
    refine m_run 1 (ps' := (76, [some (.inr (.inl 9)), some (.inr (.inl 1)), some (.inl l), none, none, some (.inl (lnC n tb (rgS im (ptC n tb l 0)) (rgS im (ptC n tb l 1)))), some (.inl (n + 1))], [.inl 1], mW (n, T, h, t, (ry, ft, im, en, br, hl)) M, 0, 0)) rfl ?_
    exact m_ret1 rfl (Or.inr ⟨rfl, Or.inr rfl⟩) rfl (m_Vb (by rw [all_end] at ho; subst ho; rfl))
  · intro iv hi1 hi2 ih ho
    have g1 := ptC_in (l := l) (i := iv) hn hR.tb
    have g2 := rgR_in hn him g1
    have g3 := lnC_in (n := n) (tb := tb) (p := (rgS im (ptC n tb l 0))) (q := (rgS im (ptC n tb l 1)))
    refine m_run 4 (ps' := (44, [some (.inr (.inl 9)), some (.inr (.inl 1)), some (.inl l), none, none, some (.inl (lnC n tb (rgS im (ptC n tb l 0)) (rgS im (ptC n tb l 1)))), some (.inl iv)], [.inl n, .inl iv], mW (n, T, h, t, (ry, ft, im, en, br, hl)) M, 0, 0)) rfl ?_
    refine m_icmp rfl ⟨by omega, by omega⟩ ⟨by omega, by omega⟩ (fun (zc1 : n < iv) => absurd zc1 (by omega)) (fun (zc1 : ¬ n < iv) => ?_)
    refine m_run 5 (ps' := (53, [some (.inr (.inl 9)), some (.inr (.inl 1)), some (.inl l), none, none, some (.inl (lnC n tb (rgS im (ptC n tb l 0)) (rgS im (ptC n tb l 1)))), some (.inl iv)], [.inl iv, .inl l, .inr (.inl 1), .inr (.inl 9), .inr (.inl 1)], mW (n, T, h, t, (ry, ft, im, en, br, hl)) M, 0, 0)) rfl ?_
    refine m_callVF [.inl l, .inl iv] [.inr (.inl 9), .inr (.inl 1)] rfl rfl ⟨_, rfl, rfl⟩ rfl rfl (k_pt (l := l) (i := iv) hR hll ⟨by omega, by omega⟩) ?_
    have zt1 := ptC_in (l := l) (i := iv) hn hR.tb
    unfold NP at zt1
    show m_Sem X 21 (56, [some (.inr (.inl 9)), some (.inr (.inl 1)), some (.inl l), none, none, some (.inl (lnC n tb (rgS im (ptC n tb l 0)) (rgS im (ptC n tb l 1)))), some (.inl iv)], [.inl (ptC n tb l iv), .inr (.inl 9), .inr (.inl 1)], mW (n, T, h, t, (ry, ft, im, en, br, hl)) M, 0, 0) _
    refine m_callVF [.inl (ptC n tb l iv)] [.inr (.inl 1)] rfl rfl ⟨_, rfl, rfl⟩ rfl rfl (k_img (p := (ptC n tb l iv)) ⟨by omega, by omega⟩) ?_
    show m_Sem X 21 (59, [some (.inr (.inl 9)), some (.inr (.inl 1)), some (.inl l), none, none, some (.inl (lnC n tb (rgS im (ptC n tb l 0)) (rgS im (ptC n tb l 1)))), some (.inl iv)], [.inl (rgS im (ptC n tb l iv)), .inr (.inl 1)], mW (n, T, h, t, (ry, ft, im, en, br, hl)) M, 0, 0) _
    refine m_run 1 (ps' := (61, [some (.inr (.inl 9)), some (.inr (.inl 1)), some (.inl l), none, none, some (.inl (lnC n tb (rgS im (ptC n tb l 0)) (rgS im (ptC n tb l 1)))), some (.inl iv)], [.inl (lnC n tb (rgS im (ptC n tb l 0)) (rgS im (ptC n tb l 1))), .inl (rgS im (ptC n tb l iv)), .inr (.inl 1)], mW (n, T, h, t, (ry, ft, im, en, br, hl)) M, 0, 0)) rfl ?_
    refine m_callVF [.inl (rgS im (ptC n tb l iv)), .inl (lnC n tb (rgS im (ptC n tb l 0)) (rgS im (ptC n tb l 1)))] [] rfl rfl ⟨_, rfl, rfl⟩ rfl rfl (k_on (p := (rgS im (ptC n tb l iv))) (l := (lnC n tb (rgS im (ptC n tb l 0)) (rgS im (ptC n tb l 1)))) hR ⟨by omega, by omega⟩ ⟨by omega, by omega⟩) ?_
    show m_Sem X 21 (64, [some (.inr (.inl 9)), some (.inr (.inl 1)), some (.inl l), none, none, some (.inl (lnC n tb (rgS im (ptC n tb l 0)) (rgS im (ptC n tb l 1)))), some (.inl iv)], [.inl (bI (onC n tb (rgS im (ptC n tb l iv)) (lnC n tb (rgS im (ptC n tb l 0)) (rgS im (ptC n tb l 1)))))], mW (n, T, h, t, (ry, ft, im, en, br, hl)) M, 0, 0) _
    refine m_if rfl (bI_R (onC n tb (rgS im (ptC n tb l iv)) (lnC n tb (rgS im (ptC n tb l 0)) (rgS im (ptC n tb l 1))))) (fun (zc2 : ¬ (bI (onC n tb (rgS im (ptC n tb l iv)) (lnC n tb (rgS im (ptC n tb l 0)) (rgS im (ptC n tb l 1))))) = 0) => ?_) (fun (zc2 : ¬ ¬ (bI (onC n tb (rgS im (ptC n tb l iv)) (lnC n tb (rgS im (ptC n tb l 0)) (rgS im (ptC n tb l 1))))) = 0) => ?_)
    · replace zc2 : (onC n tb (rgS im (ptC n tb l iv)) (lnC n tb (rgS im (ptC n tb l 0)) (rgS im (ptC n tb l 1)))) = true := bI_n0.mp zc2
      refine m_run 2 (ps' := (35, [some (.inr (.inl 9)), some (.inr (.inl 1)), some (.inl l), none, none, some (.inl (lnC n tb (rgS im (ptC n tb l 0)) (rgS im (ptC n tb l 1)))), some (.inl (iv + 1))], [], mW (n, T, h, t, (ry, ft, im, en, br, hl)) M, 0, 0)) rfl ?_
      refine m_weak [some (.inr (.inl 9)), some (.inr (.inl 1)), some (.inl l), none, none, some (.inl (lnC n tb (rgS im (ptC n tb l 0)) (rgS im (ptC n tb l 1)))), some (.inl (iv + 1))] ⟨rfl, ⟨rfl, ⟨rfl, ⟨rfl, ⟨rfl, trivial⟩⟩⟩⟩⟩ ?_
      rw [all_t hi2 zc2] at ho
      exact ih ho
    · replace zc2 : (onC n tb (rgS im (ptC n tb l iv)) (lnC n tb (rgS im (ptC n tb l 0)) (rgS im (ptC n tb l 1)))) = false := bI_e0.mp (Decidable.not_not.mp zc2)
      refine m_run 1 (ps' := (68, [some (.inr (.inl 9)), some (.inr (.inl 1)), some (.inl l), none, none, some (.inl (lnC n tb (rgS im (ptC n tb l 0)) (rgS im (ptC n tb l 1)))), some (.inl iv)], [.inl 0], mW (n, T, h, t, (ry, ft, im, en, br, hl)) M, 0, 0)) rfl ?_
      exact m_ret1 rfl (Or.inr ⟨rfl, Or.inl rfl⟩) rfl (m_Vb (by rw [all_f hi2 zc2] at ho; subst ho; rfl))
set_option maxHeartbeats 4000000 in
set_option maxRecDepth 100000 in
theorem k_ll {X : Nat × Nat × (Nat → Int32)} {n : Int} {T : Int → Int} {h : HS} {t : TS} {ry ft im : Int → Int} {en br hl : Int} {M : MS} {tb : Int → Int → Int} {l : Int} (hR : repC n T tb) (hll : m_R l) (him : rayOk n im) : m_Run X 21 [.inr (.inl 9), .inr (.inl 1), .inl l] (mW (n, T, h, t, (ry, ft, im, en, br, hl)) M) (m_V (bI (ldX n tb im l)) (mW (n, T, h, t, (ry, ft, im, en, br, hl)) M)) := by
  have hn := hR.1
  have hln := okN_lo hn
  have hq := sq_b hn
  have hnp : NP n = n * n + n + 1 := rfl
  have g1 := rgR_in hn him (ptC_in (l := l) (i := 0) hn hR.tb)
  have g2 := rgR_in hn him (ptC_in (l := l) (i := 1) hn hR.tb)
  show m_Sem X 21 (0, [some (.inr (.inl 9)), some (.inr (.inl 1)), some (.inl l), none, none, none, none], [], mW (n, T, h, t, (ry, ft, im, en, br, hl)) M, 0, 0) _
  refine m_run 4 (ps' := (4, [some (.inr (.inl 9)), some (.inr (.inl 1)), some (.inl l), none, none, none, none], [.inl 0, .inl l, .inr (.inl 1), .inr (.inl 9)], mW (n, T, h, t, (ry, ft, im, en, br, hl)) M, 0, 0)) rfl ?_
  refine m_callVF [.inl l, .inl 0] [.inr (.inl 9)] rfl rfl ⟨_, rfl, rfl⟩ rfl rfl (k_pt (l := l) (i := 0) hR hll ⟨by omega, by omega⟩) ?_
  have zt1 := ptC_in (l := l) (i := 0) hn hR.tb
  unfold NP at zt1
  show m_Sem X 21 (7, [some (.inr (.inl 9)), some (.inr (.inl 1)), some (.inl l), none, none, none, none], [.inl (ptC n tb l 0), .inr (.inl 9)], mW (n, T, h, t, (ry, ft, im, en, br, hl)) M, 0, 0) _
  refine m_callVF [.inl (ptC n tb l 0)] [] rfl rfl ⟨_, rfl, rfl⟩ rfl rfl (k_img (p := (ptC n tb l 0)) ⟨by omega, by omega⟩) ?_
  show m_Sem X 21 (10, [some (.inr (.inl 9)), some (.inr (.inl 1)), some (.inl l), none, none, none, none], [.inl (rgS im (ptC n tb l 0))], mW (n, T, h, t, (ry, ft, im, en, br, hl)) M, 0, 0) _
  refine m_run 5 (ps' := (15, [some (.inr (.inl 9)), some (.inr (.inl 1)), some (.inl l), some (.inl (rgS im (ptC n tb l 0))), none, none, none], [.inl 1, .inl l, .inr (.inl 1), .inr (.inl 9)], mW (n, T, h, t, (ry, ft, im, en, br, hl)) M, 0, 0)) rfl ?_
  refine m_callVF [.inl l, .inl 1] [.inr (.inl 9)] rfl rfl ⟨_, rfl, rfl⟩ rfl rfl (k_pt (l := l) (i := 1) hR hll ⟨by omega, by omega⟩) ?_
  have zt2 := ptC_in (l := l) (i := 1) hn hR.tb
  unfold NP at zt2
  show m_Sem X 21 (18, [some (.inr (.inl 9)), some (.inr (.inl 1)), some (.inl l), some (.inl (rgS im (ptC n tb l 0))), none, none, none], [.inl (ptC n tb l 1), .inr (.inl 9)], mW (n, T, h, t, (ry, ft, im, en, br, hl)) M, 0, 0) _
  refine m_callVF [.inl (ptC n tb l 1)] [] rfl rfl ⟨_, rfl, rfl⟩ rfl rfl (k_img (p := (ptC n tb l 1)) ⟨by omega, by omega⟩) ?_
  show m_Sem X 21 (21, [some (.inr (.inl 9)), some (.inr (.inl 1)), some (.inl l), some (.inl (rgS im (ptC n tb l 0))), none, none, none], [.inl (rgS im (ptC n tb l 1))], mW (n, T, h, t, (ry, ft, im, en, br, hl)) M, 0, 0) _
  refine m_run 4 (ps' := (27, [some (.inr (.inl 9)), some (.inr (.inl 1)), some (.inl l), some (.inl (rgS im (ptC n tb l 0))), some (.inl (rgS im (ptC n tb l 1))), none, none], [.inl (rgS im (ptC n tb l 1)), .inl (rgS im (ptC n tb l 0)), .inr (.inl 1)], mW (n, T, h, t, (ry, ft, im, en, br, hl)) M, 0, 0)) rfl ?_
  refine m_callVF [.inl (rgS im (ptC n tb l 0)), .inl (rgS im (ptC n tb l 1))] [] rfl rfl ⟨_, rfl, rfl⟩ rfl rfl (k_ln (p := (rgS im (ptC n tb l 0))) (q := (rgS im (ptC n tb l 1))) hR ⟨by omega, by omega⟩ ⟨by omega, by omega⟩) ?_
  have zt3 := lnC_in (n := n) (tb := tb) (p := (rgS im (ptC n tb l 0))) (q := (rgS im (ptC n tb l 1)))
  unfold NP at zt3
  show m_Sem X 21 (30, [some (.inr (.inl 9)), some (.inr (.inl 1)), some (.inl l), some (.inl (rgS im (ptC n tb l 0))), some (.inl (rgS im (ptC n tb l 1))), none, none], [.inl (lnC n tb (rgS im (ptC n tb l 0)) (rgS im (ptC n tb l 1)))], mW (n, T, h, t, (ry, ft, im, en, br, hl)) M, 0, 0) _
  refine m_run 3 (ps' := (35, [some (.inr (.inl 9)), some (.inr (.inl 1)), some (.inl l), some (.inl (rgS im (ptC n tb l 0))), some (.inl (rgS im (ptC n tb l 1))), some (.inl (lnC n tb (rgS im (ptC n tb l 0)) (rgS im (ptC n tb l 1)))), some (.inl 2)], [], mW (n, T, h, t, (ry, ft, im, en, br, hl)) M, 0, 0)) rfl ?_
  refine m_weak [some (.inr (.inl 9)), some (.inr (.inl 1)), some (.inl l), none, none, some (.inl (lnC n tb (rgS im (ptC n tb l 0)) (rgS im (ptC n tb l 1)))), some (.inl 2)] ⟨rfl, ⟨rfl, ⟨rfl, ⟨rfl, ⟨rfl, trivial⟩⟩⟩⟩⟩ ?_
  exact l_ll hR hll him 2 (by omega) (by omega) rfl
def eqN (n : Int) (f g : Int → Int) : Prop := ∀ p, 0 ≤ p → p < NP n → f p = g p
def inZ (n p : Int) : Prop := p = -1 ∨ (0 ≤ p ∧ p < NP n)
theorem rg_congr {n p : Int} {f g : Int → Int} (hn : okN n) (h : eqN n f g) (hp : inZ n p) : rgS f p = rgS g p := by
  have hq := sq_b hn
  have hl := okN_lo hn
  have hnp : NP n = n * n + n + 1 := rfl
  rcases hp with rfl | ⟨h1, h2⟩
  · rfl
  · rw [rgS_at h1 (by omega), rgS_at h1 (by omega), h p h1 h2]
theorem lo_congr {n lo : Int} {f g : Int → Int} (hn : okN n) (h : eqN n f g) : loS n f lo = loS n g lo := by
  have hq := sq_b hn
  have hl := okN_lo hn
  have hnp : NP n = n * n + n + 1 := rfl
  exact fst_congr _ _ (fun j h1 h2 => by rw [h j h1 (by omega)])
theorem ld_congr {n l : Int} {tb : Int → Int → Int} {f g : Int → Int} (hn : okN n) (ht : tbR n tb) (h : eqN n f g) : ldX n tb f l = ldX n tb g l := by
  unfold ldX
  have e : ∀ i, rgS f (ptC n tb l i) = rgS g (ptC n tb l i) := fun i => rg_congr hn h (ptC_in hn ht)
  simp only [e]
/-- where a map that is known by the image z of the base leads a point -/
def imgX (n : Int) (tb : Int → Int → Int) (ry ft : Int → Int) (br hl z p : Int) : Int :=
  if ry p = -1 then p else if ry p = br then mtC n tb (ry p) (lnC n tb (ft p) (rgS (fun q => mtC n tb (ry q) (lnC n tb (ft q) z)) hl)) else mtC n tb (ry p) (lnC n tb (ft p) z)
def mirX (n : Int) (tb : Int → Int → Int) (ry ft : Int → Int) (br hl z : Int) : Bool := allF (fun l => ldX n tb (imgX n tb ry ft br hl z) l) (NP n).toNat 0
theorem img_congr {n br hl z : Int} {tb : Int → Int → Int} {ry ry' ft ft' : Int → Int} (hn : okN n) (h1 : eqN n ry ry') (h2 : eqN n ft ft') (hh : inZ n hl) : eqN n (imgX n tb ry ft br hl z) (imgX n tb ry' ft' br hl z) := by
  intro p g1 g2
  unfold imgX
  rw [h1 p g1 g2, h2 p g1 g2, rg_congr (f := fun q => mtC n tb (ry q) (lnC n tb (ft q) z)) (g := fun q => mtC n tb (ry' q) (lnC n tb (ft' q) z)) hn (fun q g3 g4 => by dsimp only; rw [h1 q g3 g4, h2 q g3 g4]) hh]
theorem mir_congr {n br hl z : Int} {tb : Int → Int → Int} {ry ry' ft ft' : Int → Int} (hn : okN n) (ht : tbR n tb) (h1 : eqN n ry ry') (h2 : eqN n ft ft') (hh : inZ n hl) : mirX n tb ry ft br hl z = mirX n tb ry' ft' br hl z := by
  unfold mirX
  exact all_congr _ _ (fun j _ _ => ld_congr hn ht (img_congr hn h1 h2 hh))
def hlOk (n : Int) (ry : Int → Int) (br hl : Int) : Prop := hl = -1 ∨ ((0 ≤ hl ∧ hl < NP n) ∧ ry hl ≠ -1 ∧ ry hl ≠ br)
def fixOk (n : Int) (ry im : Int → Int) : Prop := ∀ p, 0 ≤ p → p < NP n → ry p = -1 → im p = p
theorem lo_ok {n br : Int} {ry : Int → Int} (hn : okN n) : hlOk n ry br (loS n ry br) := by
  have hq := sq_b hn
  have hl := okN_lo hn
  have hnp : NP n = n * n + n + 1 := rfl
  rcases fst_in (p := fun p => decide (ry p ≠ -1) && decide (ry p ≠ br)) (NP n).toNat 0 with h | ⟨h1, h2, h3⟩
  · exact Or.inl h
  · simp only [Bool.and_eq_true, decide_eq_true_eq] at h3
    exact Or.inr ⟨⟨h1, by unfold loS; omega⟩, h3.1, h3.2⟩
theorem lead2 {n br hl z : Int} {tb : Int → Int → Int} {ry ft im0 im1 im2 : Int → Int} (hn : okN n) (hh : hlOk n ry br hl) (hf : fixOk n ry im0) (h1 : ∀ p, 0 ≤ p → p < NP n → im1 p = leadX n tb ry ft im0 br z false p) (h2 : ∀ p, 0 ≤ p → p < NP n → im2 p = leadX n tb ry ft im1 br (rgS im1 hl) true p) : eqN n im2 (imgX n tb ry ft br hl z) ∧ fixOk n ry im2 := by
  have hq := sq_b hn
  have hl' := okN_lo hn
  have hnp : NP n = n * n + n + 1 := rfl
  have e : rgS im1 hl = rgS (fun q => mtC n tb (ry q) (lnC n tb (ft q) z)) hl := by
    rcases hh with rfl | ⟨⟨g1, g2⟩, g3, g4⟩
    · rfl
    · rw [rgS_at g1 (by omega), rgS_at g1 (by omega), h1 hl g1 g2]
      unfold leadX
      rw [if_neg g3, if_pos (decide_eq_false g4)]
  have key : eqN n im2 (imgX n tb ry ft br hl z) := by
    intro p g1 g2
    rw [h2 p g1 g2, e]
    unfold leadX imgX
    by_cases c1 : ry p = -1
    · rw [if_pos c1, if_pos c1, h1 p g1 g2]
      unfold leadX
      rw [if_pos c1]
      exact hf p g1 g2 c1
    · rw [if_neg c1, if_neg c1]
      by_cases c2 : ry p = br
      · rw [if_pos c2, if_pos (decide_eq_true c2)]
      · rw [if_neg c2, if_neg (by rw [decide_eq_false c2]; decide), h1 p g1 g2]
        unfold leadX
        rw [if_neg c1, if_pos (decide_eq_false c2)]
  refine ⟨key, fun p g1 g2 g3 => ?_⟩
  rw [key p g1 g2]
  unfold imgX
  rw [if_pos g3]
theorem img_ok {n br hl z : Int} {tb : Int → Int → Int} {ry ft : Int → Int} : rayOk n (imgX n tb ry ft br hl z) := by
  intro p g1 g2
  unfold imgX
  split
  · exact Or.inr ⟨g1, g2⟩
  · split
    · exact mtC_in
    · exact mtC_in
theorem ok_congr {n : Int} {f g : Int → Int} (h : eqN n f g) (hg : rayOk n g) : rayOk n f := fun p g1 g2 => by rw [h p g1 g2]; exact hg p g1 g2
set_option maxHeartbeats 4000000 in
set_option maxRecDepth 100000 in
theorem l_mi {X : Nat × Nat × (Nat → Int32)} {n : Int} {T : Int → Int} {h : HS} {t : TS} {ry ft im : Int → Int} {br hl z : Int} {M : MS} {tb : Int → Int → Int} {o : Bool} (hR : repC n T tb) (hbr : inZ n br) (hh : hlOk n ry br hl) (hry : rayOk n ry) (hft : rayOk n ft) (he : eqN n im (imgX n tb ry ft br hl z)) (hfx : fixOk n ry im) : ∀ iv : Int, 0 ≤ iv → iv ≤ (NP n) → ∀ (ho : allF (fun l => ldX n tb im l) (NP n - iv).toNat iv = o), m_Sem X 19 (23, [some (.inr (.inl 9)), some (.inr (.inl 1)), none, some (.inl iv)], [], mW (n, T, h, t, (ry, ft, im, (NP n), br, hl)) M, 0, 0) (fun r w => r = some (.inl (bI o)) ∧ ∃ im3, w = mW (n, T, h, t, (ry, ft, im3, NP n, br, hl)) M ∧ fixOk n ry im3) := by
  have hn := hR.1
  have hln := okN_lo hn
  have hq := sq_b hn
  have hnp : NP n = n * n + n + 1 := rfl
  refine m_down 0 (NP n) ?_ ?_
  · intro ho
    show m_Sem X 19 (23, [some (.inr (.inl 9)), some (.inr (.inl 1)), none, some (.inl (NP n))], [], mW (n, T, h, t, (ry, ft, im, (NP n), br, hl)) M, 0, 0) _
    refine m_run 3 (ps' := (28, [some (.inr (.inl 9)), some (.inr (.inl 1)), none, some (.inl (NP n))], [.inl (NP n), .inl (NP n)], mW (n, T, h, t, (ry, ft, im, (NP n), br, hl)) M, 0, 0)) rfl ?_
    refine m_icmp rfl ⟨by omega, by omega⟩ ⟨by omega, by omega⟩ (fun (zc1 : (NP n) ≤ (NP n)) => ?_) (fun (zc1 : ¬ (NP n) ≤ (NP n)) => absurd zc1 (not_not_intro (by omega)))
    refine m_run 1 (ps' := (49, [some (.inr (.inl 9)), some (.inr (.inl 1)), none, some (.inl (NP n))], [.inl 1], mW (n, T, h, t, (ry, ft, im, (NP n), br, hl)) M, 0, 0)) rfl ?_
    exact m_ret1 rfl (Or.inr ⟨rfl, Or.inr rfl⟩) rfl (by rw [all_end] at ho; subst ho; exact ⟨rfl, im, rfl, hfx⟩)
  · intro iv hi1 hi2 ih ho
    refine m_run 3 (ps' := (28, [some (.inr (.inl 9)), some (.inr (.inl 1)), none, some (.inl iv)], [.inl (NP n), .inl iv], mW (n, T, h, t, (ry, ft, im, (NP n), br, hl)) M, 0, 0)) rfl ?_
    refine m_icmp rfl ⟨by omega, by omega⟩ ⟨by omega, by omega⟩ (fun (zc1 : (NP n) ≤ iv) => absurd zc1 (by omega)) (fun (zc1 : ¬ (NP n) ≤ iv) => ?_)
    refine m_run 3 (ps' := (34, [some (.inr (.inl 9)), some (.inr (.inl 1)), none, some (.inl iv)], [.inl iv, .inr (.inl 1), .inr (.inl 9)], mW (n, T, h, t, (ry, ft, im, (NP n), br, hl)) M, 0, 0)) rfl ?_
    refine m_callVF [.inr (.inl 1), .inl iv] [] rfl rfl ⟨_, rfl, rfl⟩ rfl rfl (k_ll (l := iv) (im := im) hR ⟨by omega, by omega⟩ (ok_congr he img_ok)) ?_
    show m_Sem X 19 (37, [some (.inr (.inl 9)), some (.inr (.inl 1)), none, some (.inl iv)], [.inl (bI (ldX n tb im iv))], mW (n, T, h, t, (ry, ft, im, (NP n), br, hl)) M, 0, 0) _
    refine m_if rfl (bI_R (ldX n tb im iv)) (fun (zc2 : ¬ (bI (ldX n tb im iv)) = 0) => ?_) (fun (zc2 : ¬ ¬ (bI (ldX n tb im iv)) = 0) => ?_)
    · replace zc2 : (ldX n tb im iv) = true := bI_n0.mp zc2
      refine m_run 2 (ps' := (23, [some (.inr (.inl 9)), some (.inr (.inl 1)), none, some (.inl (iv + 1))], [], mW (n, T, h, t, (ry, ft, im, (NP n), br, hl)) M, 0, 0)) rfl ?_
      refine m_weak [some (.inr (.inl 9)), some (.inr (.inl 1)), none, some (.inl (iv + 1))] ⟨rfl, ⟨rfl, ⟨rfl, trivial⟩⟩⟩ ?_
      rw [all_t hi2 zc2] at ho
      exact ih ho
    · replace zc2 : (ldX n tb im iv) = false := bI_e0.mp (Decidable.not_not.mp zc2)
      refine m_run 1 (ps' := (41, [some (.inr (.inl 9)), some (.inr (.inl 1)), none, some (.inl iv)], [.inl 0], mW (n, T, h, t, (ry, ft, im, (NP n), br, hl)) M, 0, 0)) rfl ?_
      exact m_ret1 rfl (Or.inr ⟨rfl, Or.inl rfl⟩) rfl (by rw [all_f hi2 zc2] at ho; subst ho; exact ⟨rfl, im, rfl, hfx⟩)
theorem rgH' {n br hl z : Int} {tb : Int → Int → Int} {ry ft im0 im1 : Int → Int} (hn : okN n) (hh : hlOk n ry br hl) (h1 : ∀ p, 0 ≤ p → p < NP n → im1 p = leadX n tb ry ft im0 br z false p) : rgS im1 hl = -1 ∨ (0 ≤ rgS im1 hl ∧ rgS im1 hl < NP n) := by
  have hq := sq_b hn
  have hl' := okN_lo hn
  have hnp : NP n = n * n + n + 1 := rfl
  rcases hh with rfl | ⟨⟨g1, g2⟩, g3, g4⟩
  · exact Or.inl rfl
  · rw [rgS_at g1 (by omega), h1 hl g1 g2]
    unfold leadX
    rw [if_neg g3, if_pos (decide_eq_false g4)]
    exact mtC_in
theorem hlOk.z {n br hl : Int} {ry : Int → Int} (h : hlOk n ry br hl) : hl = -1 ∨ (0 ≤ hl ∧ hl < NP n) := h.imp id (fun h => h.1)
set_option maxHeartbeats 4000000 in
set_option maxRecDepth 100000 in
theorem k_mi {X : Nat × Nat × (Nat → Int32)} {n : Int} {T : Int → Int} {h : HS} {t : TS} {ry ft im : Int → Int} {br hl z : Int} {M : MS} {tb : Int → Int → Int} (hR : repC n T tb) (hbr : inZ n br) (hh : hlOk n ry br hl) (hry : rayOk n ry) (hft : rayOk n ft) (hz : m_R z) (hf : fixOk n ry im) : m_Run X 19 [.inr (.inl 9), .inr (.inl 1), .inl z] (mW (n, T, h, t, (ry, ft, im, (NP n), br, hl)) M) (fun r w => r = some (.inl (bI (mirX n tb ry ft br hl z))) ∧ ∃ im3, w = mW (n, T, h, t, (ry, ft, im3, NP n, br, hl)) M ∧ fixOk n ry im3) := by
  have hn := hR.1
  have hln := okN_lo hn
  have hq := sq_b hn
  have hnp : NP n = n * n + n + 1 := rfl
  have hhz := hh.z
  have rgH := fun {im1 : Int → Int} => @rgH' n br hl z tb ry ft im im1 hn hh
  unfold inZ at hbr
  show m_Sem X 19 (0, [some (.inr (.inl 9)), some (.inr (.inl 1)), some (.inl z), none], [], mW (n, T, h, t, (ry, ft, im, (NP n), br, hl)) M, 0, 0) _
  refine m_run 4 (ps' := (4, [some (.inr (.inl 9)), some (.inr (.inl 1)), some (.inl z), none], [.inl z, .inl 0, .inr (.inl 1), .inr (.inl 9)], mW (n, T, h, t, (ry, ft, im, (NP n), br, hl)) M, 0, 0)) rfl ?_
  refine m_callV [.inr (.inl 1), .inl 0, .inl z] [] rfl rfl ⟨_, rfl, rfl⟩ rfl rfl (k_ld0 (sf := z) hR hz hbr hry hft) (fun r_ w_ hq_ _ => ?_)
  obtain ⟨rfl, im1, rfl, hl0⟩ := hq_
  have hrg : rgS im1 hl = -1 ∨ (0 ≤ rgS im1 hl ∧ rgS im1 hl < NP n) := rgH hl0
  show m_Sem X 19 (7, [some (.inr (.inl 9)), some (.inr (.inl 1)), some (.inl z), none], [], mW (n, T, h, t, (ry, ft, im1, NP n, br, hl)) M, 0, 0) _
  refine m_run 6 (ps' := (15, [some (.inr (.inl 9)), some (.inr (.inl 1)), some (.inl z), none], [.inl hl, .inr (.inl 9), .inl 1, .inr (.inl 1), .inr (.inl 9)], mW (n, T, h, t, (ry, ft, im1, NP n, br, hl)) M, 0, 0)) rfl ?_
  refine m_callVF [.inl hl] [.inl 1, .inr (.inl 1), .inr (.inl 9)] rfl rfl ⟨_, rfl, rfl⟩ rfl rfl (k_img (p := hl) ⟨by omega, by omega⟩) ?_
  show m_Sem X 19 (18, [some (.inr (.inl 9)), some (.inr (.inl 1)), some (.inl z), none], [.inl (rgS im1 hl), .inl 1, .inr (.inl 1), .inr (.inl 9)], mW (n, T, h, t, (ry, ft, im1, NP n, br, hl)) M, 0, 0) _
  refine m_callV [.inr (.inl 1), .inl 1, .inl (rgS im1 hl)] [] rfl rfl ⟨_, rfl, rfl⟩ rfl rfl (k_ld1 (sf := (rgS im1 hl)) hR ⟨by omega, by omega⟩ hbr hry hft) (fun r_ w_ hq_ _ => ?_)
  obtain ⟨rfl, im2, rfl, hl1⟩ := hq_
  show m_Sem X 19 (21, [some (.inr (.inl 9)), some (.inr (.inl 1)), some (.inl z), none], [], mW (n, T, h, t, (ry, ft, im2, NP n, br, hl)) M, 0, 0) _
  refine m_run 2 (ps' := (23, [some (.inr (.inl 9)), some (.inr (.inl 1)), some (.inl z), some (.inl 0)], [], mW (n, T, h, t, (ry, ft, im2, NP n, br, hl)) M, 0, 0)) rfl ?_
  obtain ⟨he, hfx⟩ := lead2 hn hh hf hl0 hl1
  refine m_weak [some (.inr (.inl 9)), some (.inr (.inl 1)), none, some (.inl 0)] ⟨rfl, ⟨rfl, ⟨rfl, trivial⟩⟩⟩ ?_
  have h0 := l_mi (X := X) (T := T) (h := h) (t := t) (M := M) (z := z) hR hbr hh hry hft he hfx 0 (by omega) (by omega) rfl
  rw [z_sub] at h0
  have em : allF (fun l => ldX n tb im2 l) (NP n).toNat 0 = mirX n tb ry ft br hl z := by
    unfold mirX
    exact all_congr _ _ (fun j _ _ => ld_congr hn hR.tb he)
  rw [em] at h0
  exact h0
def talX (n : Int) (tb : Int → Int → Int) (ry ft : Int → Int) (br hl : Int) (i : Int) : Int := if rgS ry (ptC n tb br i) = -1 then 0 else if mirX n tb ry ft br hl (ptC n tb br i) = true then 1 else 0
def talS (n : Int) (tb : Int → Int → Int) (ax ce : Int) : Int :=
  let ry := rayS n tb ax ce
  let ba := loS n ry (-1)
  let br := rgS ry ba
  let hl := loS n ry br
  sumF (talX n tb ry (footX n tb ry ax ba br hl) br hl) (n + 1).toNat 0
set_option maxHeartbeats 4000000 in
set_option maxRecDepth 100000 in
theorem l_tal {X : Nat × Nat × (Nat → Int32)} {n : Int} {T : Int → Int} {h : HS} {t : TS} {ry ft : Int → Int} {br hl v : Int} {M : MS} {tb : Int → Int → Int} (hR : repC n T tb) (hbr : inZ n br) (hh : hlOk n ry br hl) (hry : rayOk n ry) (hft : rayOk n ft) : ∀ iv : Int, 0 ≤ iv → iv ≤ n + 1 → ∀ (im : Int → Int) (u : Int) (hf : fixOk n ry im) (hu : u + sumF (talX n tb ry ft br hl) (n + 1 - iv).toNat iv = v), m_Sem X 13 (19, [some (.inr (.inl 9)), some (.inr (.inl 1)), none, none, some (.inl u), some (.inl iv), none], [], mW (n, T, h, t, (ry, ft, im, (NP n), br, hl)) M, 0, 0) (fun r w => r = some (.inl v) ∧ ∃ im3, w = mW (n, T, h, t, (ry, ft, im3, NP n, br, hl)) M) := by
  have hn := hR.1
  have hln := okN_lo hn
  have hq := sq_b hn
  have hnp : NP n = n * n + n + 1 := rfl
  refine m_down 0 (n + 1) ?_ ?_
  · intro im u hf hu
    rw [sum_end] at hu
    have hu : u = v := by omega
    subst hu
    show m_Sem X 13 (19, [some (.inr (.inl 9)), some (.inr (.inl 1)), none, none, some (.inl u), some (.inl (n + 1)), none], [], mW (n, T, h, t, (ry, ft, im, (NP n), br, hl)) M, 0, 0) _
    refine m_run 4 (ps' := (28, [some (.inr (.inl 9)), some (.inr (.inl 1)), none, none, some (.inl u), some (.inl (n + 1)), none], [.inl n, .inl (n + 1)], mW (n, T, h, t, (ry, ft, im, (NP n), br, hl)) M, 0, 0)) rfl ?_
    refine m_icmp rfl ⟨by omega, by omega⟩ ⟨by omega, by omega⟩ (fun (zc1 : n < n + 1) => ?_) (fun (zc1 : ¬ n < n + 1) => absurd zc1 (not_not_intro (by omega)))
    refine m_run 1 (ps' := (74, [some (.inr (.inl 9)), some (.inr (.inl 1)), none, none, some (.inl u), some (.inl (n + 1)), none], [.inl u], mW (n, T, h, t, (ry, ft, im, (NP n), br, hl)) M, 0, 0)) rfl ?_
    exact m_ret1 rfl (Or.inl rfl) rfl (⟨rfl, im, rfl⟩)
  · intro iv hi1 hi2 ih im u hf hu
    unfold inZ at hbr
    rw [sum_step hi2] at hu
    have hpz := ptC_in (l := br) (i := iv) hn hR.tb
    have hrz := rgR_in hn hry hpz
    refine m_run 4 (ps' := (28, [some (.inr (.inl 9)), some (.inr (.inl 1)), none, none, some (.inl u), some (.inl iv), none], [.inl n, .inl iv], mW (n, T, h, t, (ry, ft, im, (NP n), br, hl)) M, 0, 0)) rfl ?_
    refine m_icmp rfl ⟨by omega, by omega⟩ ⟨by omega, by omega⟩ (fun (zc1 : n < iv) => absurd zc1 (by omega)) (fun (zc1 : ¬ n < iv) => ?_)
    refine m_run 4 (ps' := (38, [some (.inr (.inl 9)), some (.inr (.inl 1)), none, none, some (.inl u), some (.inl iv), none], [.inl iv, .inl br, .inr (.inl 1)], mW (n, T, h, t, (ry, ft, im, (NP n), br, hl)) M, 0, 0)) rfl ?_
    refine m_callVF [.inl br, .inl iv] [] rfl rfl ⟨_, rfl, rfl⟩ rfl rfl (k_pt (l := br) (i := iv) hR ⟨by omega, by omega⟩ ⟨by omega, by omega⟩) ?_
    have zt1 := ptC_in (l := br) (i := iv) hn hR.tb
    unfold NP at zt1
    show m_Sem X 13 (41, [some (.inr (.inl 9)), some (.inr (.inl 1)), none, none, some (.inl u), some (.inl iv), none], [.inl (ptC n tb br iv)], mW (n, T, h, t, (ry, ft, im, (NP n), br, hl)) M, 0, 0) _
    refine m_run 3 (ps' := (46, [some (.inr (.inl 9)), some (.inr (.inl 1)), none, none, some (.inl u), some (.inl iv), some (.inl (ptC n tb br iv))], [.inl (ptC n tb br iv), .inr (.inl 9)], mW (n, T, h, t, (ry, ft, im, (NP n), br, hl)) M, 0, 0)) rfl ?_
    refine m_callVF [.inl (ptC n tb br iv)] [] rfl rfl ⟨_, rfl, rfl⟩ rfl rfl (k_ray (p := (ptC n tb br iv)) ⟨by omega, by omega⟩) ?_
    show m_Sem X 13 (49, [some (.inr (.inl 9)), some (.inr (.inl 1)), none, none, some (.inl u), some (.inl iv), some (.inl (ptC n tb br iv))], [.inl (rgS ry (ptC n tb br iv))], mW (n, T, h, t, (ry, ft, im, (NP n), br, hl)) M, 0, 0) _
    refine m_run 1 (ps' := (50, [some (.inr (.inl 9)), some (.inr (.inl 1)), none, none, some (.inl u), some (.inl iv), some (.inl (ptC n tb br iv))], [.inl (-1), .inl (rgS ry (ptC n tb br iv))], mW (n, T, h, t, (ry, ft, im, (NP n), br, hl)) M, 0, 0)) rfl ?_
    refine m_icmp rfl ⟨by omega, by omega⟩ ⟨by omega, by omega⟩ (fun (zc2 : (rgS ry (ptC n tb br iv)) = (-1)) => ?_) (fun (zc2 : ¬ (rgS ry (ptC n tb br iv)) = (-1)) => ?_)
    · refine m_run 2 (ps' := (19, [some (.inr (.inl 9)), some (.inr (.inl 1)), none, none, some (.inl u), some (.inl (iv + 1)), some (.inl (ptC n tb br iv))], [], mW (n, T, h, t, (ry, ft, im, (NP n), br, hl)) M, 0, 0)) rfl ?_
      refine m_weak [some (.inr (.inl 9)), some (.inr (.inl 1)), none, none, some (.inl u), some (.inl (iv + 1)), none] ⟨rfl, ⟨rfl, ⟨rfl, ⟨rfl, trivial⟩⟩⟩⟩ ?_
      have ht9 : talX n tb ry ft br hl iv = 0 := by unfold talX; simp [*]
      rw [ht9] at hu
      exact ih _ _ hf (by rw [← hu]; omega)
    · refine m_run 3 (ps' := (57, [some (.inr (.inl 9)), some (.inr (.inl 1)), none, none, some (.inl u), some (.inl iv), some (.inl (ptC n tb br iv))], [.inl (ptC n tb br iv), .inr (.inl 1), .inr (.inl 9)], mW (n, T, h, t, (ry, ft, im, (NP n), br, hl)) M, 0, 0)) rfl ?_
      refine m_callV [.inr (.inl 1), .inl (ptC n tb br iv)] [] rfl rfl ⟨_, rfl, rfl⟩ rfl rfl (k_mi (z := (ptC n tb br iv)) hR hbr hh hry hft ⟨by omega, by omega⟩ hf) (fun r_ w_ hq_ _ => ?_)
      obtain ⟨rfl, im3, rfl, hf3⟩ := hq_
      show m_Sem X 13 (60, [some (.inr (.inl 9)), some (.inr (.inl 1)), none, none, some (.inl u), some (.inl iv), some (.inl (ptC n tb br iv))], [.inl (bI (mirX n tb ry ft br hl (ptC n tb br iv)))], mW (n, T, h, t, (ry, ft, im3, NP n, br, hl)) M, 0, 0) _
      refine m_if rfl (bI_R (mirX n tb ry ft br hl (ptC n tb br iv))) (fun (zc3 : (bI (mirX n tb ry ft br hl (ptC n tb br iv))) = 0) => ?_) (fun (zc3 : ¬ (bI (mirX n tb ry ft br hl (ptC n tb br iv))) = 0) => ?_)
      · replace zc3 : (mirX n tb ry ft br hl (ptC n tb br iv)) = false := bI_e0.mp zc3
        refine m_run 2 (ps' := (19, [some (.inr (.inl 9)), some (.inr (.inl 1)), none, none, some (.inl u), some (.inl (iv + 1)), some (.inl (ptC n tb br iv))], [], mW (n, T, h, t, (ry, ft, im3, NP n, br, hl)) M, 0, 0)) rfl ?_
        refine m_weak [some (.inr (.inl 9)), some (.inr (.inl 1)), none, none, some (.inl u), some (.inl (iv + 1)), none] ⟨rfl, ⟨rfl, ⟨rfl, ⟨rfl, trivial⟩⟩⟩⟩ ?_
        have ht9 : talX n tb ry ft br hl iv = 0 := by unfold talX; simp [*]
        rw [ht9] at hu
        exact ih _ _ hf3 (by rw [← hu]; omega)
      · replace zc3 : (mirX n tb ry ft br hl (ptC n tb br iv)) = true := bI_n0.mp zc3
        refine m_run 3 (ps' := (19, [some (.inr (.inl 9)), some (.inr (.inl 1)), none, none, some (.inl (u + 1)), some (.inl (iv + 1)), some (.inl (ptC n tb br iv))], [], mW (n, T, h, t, (ry, ft, im3, NP n, br, hl)) M, 0, 0)) rfl ?_
        refine m_weak [some (.inr (.inl 9)), some (.inr (.inl 1)), none, none, some (.inl (u + 1)), some (.inl (iv + 1)), none] ⟨rfl, ⟨rfl, ⟨rfl, ⟨rfl, trivial⟩⟩⟩⟩ ?_
        have ht9 : talX n tb ry ft br hl iv = 1 := by unfold talX; simp [*]
        rw [ht9] at hu
        exact ih _ _ hf3 (by rw [← hu]; omega)
set_option maxHeartbeats 4000000 in
set_option maxRecDepth 100000 in
theorem k_tal {X : Nat × Nat × (Nat → Int32)} {n : Int} {T : Int → Int} {h : HS} {t : TS} {ry ft im : Int → Int} {en br hl : Int} {M : MS} {tb : Int → Int → Int} {ax ce : Int} (hR : repC n T tb) (hax : m_R ax) (hce : m_R ce) : m_Run X 13 [.inr (.inl 9), .inr (.inl 1), .inl ax, .inl ce] (mW (n, T, h, t, (ry, ft, im, en, br, hl)) M) (fun r w => r = some (.inl (talS n tb ax ce)) ∧ ∃ x2, w = mW (n, T, h, t, x2) M) := by
  have hn := hR.1
  have hln := okN_lo hn
  have hq := sq_b hn
  have hnp : NP n = n * n + n + 1 := rfl
  show m_Sem X 13 (0, [some (.inr (.inl 9)), some (.inr (.inl 1)), some (.inl ax), some (.inl ce), none, none, none], [], mW (n, T, h, t, (ry, ft, im, en, br, hl)) M, 0, 0) _
  refine m_run 4 (ps' := (4, [some (.inr (.inl 9)), some (.inr (.inl 1)), some (.inl ax), some (.inl ce), none, none, none], [.inl ce, .inl ax, .inr (.inl 1), .inr (.inl 9)], mW (n, T, h, t, (ry, ft, im, en, br, hl)) M, 0, 0)) rfl ?_
  refine m_callV [.inr (.inl 1), .inl ax, .inl ce] [] rfl rfl ⟨_, rfl, rfl⟩ rfl rfl (k_lr hR hax hce) (fun r_ w_ hq_ _ => ?_)
  obtain ⟨rfl, ry2, im2, rfl, hlr⟩ := hq_
  show m_Sem X 13 (7, [some (.inr (.inl 9)), some (.inr (.inl 1)), some (.inl ax), some (.inl ce), none, none, none], [], mW (n, T, h, t, (ry2, ft, im2, NP n, br, hl)) M, 0, 0) _
  refine m_run 3 (ps' := (10, [some (.inr (.inl 9)), some (.inr (.inl 1)), some (.inl ax), some (.inl ce), none, none, none], [.inl ax, .inr (.inl 1), .inr (.inl 9)], mW (n, T, h, t, (ry2, ft, im2, NP n, br, hl)) M, 0, 0)) rfl ?_
  have hry : rayOk n ry2 := fun p g1 g2 => by rw [(hlr p g1 g2).1]; exact rayS_in
  refine m_callV [.inr (.inl 1), .inl ax] [] rfl rfl ⟨_, rfl, rfl⟩ rfl rfl (k_lf (ry := ry2) hR hax hry) (fun r_ w_ hq_ _ => ?_)
  obtain ⟨rfl, ft2, rfl, hlf⟩ := hq_
  show m_Sem X 13 (13, [some (.inr (.inl 9)), some (.inr (.inl 1)), some (.inl ax), some (.inl ce), none, none, none], [], mW (n, T, h, t, (ry2, ft2, im2, NP n, rgS ry2 (loS n ry2 (-1)), loS n ry2 (rgS ry2 (loS n ry2 (-1))))) M, 0, 0) _
  refine m_run 4 (ps' := (19, [some (.inr (.inl 9)), some (.inr (.inl 1)), some (.inl ax), some (.inl ce), some (.inl 0), some (.inl 0), none], [], mW (n, T, h, t, (ry2, ft2, im2, NP n, rgS ry2 (loS n ry2 (-1)), loS n ry2 (rgS ry2 (loS n ry2 (-1))))) M, 0, 0)) rfl ?_
  have hye : eqN n ry2 (rayS n tb ax ce) := fun p g1 g2 => (hlr p g1 g2).1
  have hba : loS n ry2 (-1) = loS n (rayS n tb ax ce) (-1) := lo_congr hn hye
  have hbr9 : rgS ry2 (loS n ry2 (-1)) = rgS (rayS n tb ax ce) (loS n (rayS n tb ax ce) (-1)) := by rw [hba]; exact rg_congr hn hye (loS_in hn)
  have hhl9 : loS n ry2 (rgS ry2 (loS n ry2 (-1))) = loS n (rayS n tb ax ce) (rgS (rayS n tb ax ce) (loS n (rayS n tb ax ce) (-1))) := by rw [hbr9]; exact lo_congr hn hye
  have hfe : eqN n ft2 (footX n tb (rayS n tb ax ce) ax (loS n (rayS n tb ax ce) (-1)) (rgS (rayS n tb ax ce) (loS n (rayS n tb ax ce) (-1))) (loS n (rayS n tb ax ce) (rgS (rayS n tb ax ce) (loS n (rayS n tb ax ce) (-1))))) := fun p g1 g2 => by
    rw [hlf p g1 g2, hhl9, hbr9, hba]
    unfold footX
    rw [hye p g1 g2]
  have hfo : rayOk n ft2 := fun p g1 g2 => by
    rw [hlf p g1 g2]
    unfold footX
    split
    · exact Or.inl rfl
    · exact mtC_in
  have hbz : inZ n (rgS ry2 (loS n ry2 (-1))) := rgR_in hn hry (loS_in hn)
  have hho : hlOk n ry2 (rgS ry2 (loS n ry2 (-1))) (loS n ry2 (rgS ry2 (loS n ry2 (-1)))) := lo_ok hn
  have hsum : 0 + sumF (talX n tb ry2 ft2 (rgS ry2 (loS n ry2 (-1))) (loS n ry2 (rgS ry2 (loS n ry2 (-1))))) (n + 1 - 0).toNat 0 = talS n tb ax ce := by
    rw [Int.zero_add, z_sub]
    unfold talS
    refine sum_congr _ _ (fun j _ _ => ?_)
    unfold talX
    rw [rg_congr hn hye (show inZ n _ from ptC_in hn hR.tb), mir_congr hn hR.tb hye hfe hho.z, hhl9, hbr9]
  refine m_weak [some (.inr (.inl 9)), some (.inr (.inl 1)), none, none, some (.inl 0), some (.inl 0), none] ⟨rfl, ⟨rfl, ⟨rfl, ⟨rfl, trivial⟩⟩⟩⟩ ?_
  refine m_cons (l_tal hR hbz hho hry hfo 0 (by omega) (by omega) im2 0 (fun p g1 g2 _ => (hlr p g1 g2).2) hsum) (fun r w hq9 => ?_)
  obtain ⟨rfl, im3, rfl⟩ := hq9
  exact ⟨rfl, _, rfl⟩
end
