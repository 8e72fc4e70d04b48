-- ===== PART A: goes FIRST, ahead of the names: the tables' words, and 'selects' of the private methods out of them =====
/-- a private method of a class that the tables say can be made, by its rows of tables_1 -/
def lw_okq (q : MethodName × Nat) : Prop := (q.1.cls ≠ "java/lang/invoke/MethodHandle" ∧ q.1.cls ≠ "java/lang/invoke/VarHandle") ∧ Cond.instantiable q.1.cls q.2 ∈ tables_1 ∧ Cond.privateMethod q.1 ∈ tables_1 ∧ Cond.instanceMethod q.1 ∈ tables_1
theorem lw_p0 : lw_okq (⟨"CrossedModules", "appendWord", "(I)V"⟩, 14) := ⟨⟨by decide +kernel, by decide +kernel⟩, List.mem_of_getElem? (i := 26) (by decide +kernel), List.mem_of_getElem? (i := 282) (by decide +kernel), List.mem_of_getElem? (i := 283) (by decide +kernel)⟩
theorem lw_p1 : lw_okq (⟨"java/lang/Throwable", "fillInStackTrace", "(I)Ljava/lang/Throwable;"⟩, 6) := ⟨⟨by decide +kernel, by decide +kernel⟩, List.mem_of_getElem? (i := 352) (by decide +kernel), List.mem_of_getElem? (i := 350) (by decide +kernel), List.mem_of_getElem? (i := 351) (by decide +kernel)⟩
theorem lw_p2 : lw_okq (⟨"CrossedModules", "forgetChanges", "()V"⟩, 14) := ⟨⟨by decide +kernel, by decide +kernel⟩, List.mem_of_getElem? (i := 26) (by decide +kernel), List.mem_of_getElem? (i := 726) (by decide +kernel), List.mem_of_getElem? (i := 727) (by decide +kernel)⟩
theorem lw_p3 : lw_okq (⟨"CrossedModules", "demandText", "()V"⟩, 14) := ⟨⟨by decide +kernel, by decide +kernel⟩, List.mem_of_getElem? (i := 26) (by decide +kernel), List.mem_of_getElem? (i := 738) (by decide +kernel), List.mem_of_getElem? (i := 739) (by decide +kernel)⟩
theorem lw_p4 : lw_okq (⟨"CrossedModules", "groupAt", "(I)LCrossedModules$Group;"⟩, 14) := ⟨⟨by decide +kernel, by decide +kernel⟩, List.mem_of_getElem? (i := 26) (by decide +kernel), List.mem_of_getElem? (i := 792) (by decide +kernel), List.mem_of_getElem? (i := 793) (by decide +kernel)⟩
theorem lw_p5 : lw_okq (⟨"CrossedModules", "moduleAt", "(I)LCrossedModules$Crossed;"⟩, 14) := ⟨⟨by decide +kernel, by decide +kernel⟩, List.mem_of_getElem? (i := 26) (by decide +kernel), List.mem_of_getElem? (i := 893) (by decide +kernel), List.mem_of_getElem? (i := 894) (by decide +kernel)⟩
theorem lw_p6 : lw_okq (⟨"CrossedModules", "lawfulModuleAt", "(I)LCrossedModules$Crossed;"⟩, 14) := ⟨⟨by decide +kernel, by decide +kernel⟩, List.mem_of_getElem? (i := 26) (by decide +kernel), List.mem_of_getElem? (i := 989) (by decide +kernel), List.mem_of_getElem? (i := 990) (by decide +kernel)⟩
theorem lw_p7 : lw_okq (⟨"CrossedModules", "arrowAt", "(I)LCrossedModules$Arrow;"⟩, 14) := ⟨⟨by decide +kernel, by decide +kernel⟩, List.mem_of_getElem? (i := 26) (by decide +kernel), List.mem_of_getElem? (i := 1163) (by decide +kernel), List.mem_of_getElem? (i := 1164) (by decide +kernel)⟩
theorem lw_p8 : lw_okq (⟨"CrossedModules", "write", "(I)V"⟩, 14) := ⟨⟨by decide +kernel, by decide +kernel⟩, List.mem_of_getElem? (i := 26) (by decide +kernel), List.mem_of_getElem? (i := 1307) (by decide +kernel), List.mem_of_getElem? (i := 1308) (by decide +kernel)⟩
theorem lw_p9 : lw_okq (⟨"CrossedModules", "beginChange", "()V"⟩, 14) := ⟨⟨by decide +kernel, by decide +kernel⟩, List.mem_of_getElem? (i := 26) (by decide +kernel), List.mem_of_getElem? (i := 1332) (by decide +kernel), List.mem_of_getElem? (i := 1333) (by decide +kernel)⟩
theorem lw_p10 : lw_okq (⟨"CrossedModules", "undoPlace", "(I)I"⟩, 14) := ⟨⟨by decide +kernel, by decide +kernel⟩, List.mem_of_getElem? (i := 26) (by decide +kernel), List.mem_of_getElem? (i := 1336) (by decide +kernel), List.mem_of_getElem? (i := 1337) (by decide +kernel)⟩
theorem lw_p11 : lw_okq (⟨"CrossedModulesModel", "refuse", "(ZI)Z"⟩, 45) := ⟨⟨by decide +kernel, by decide +kernel⟩, List.mem_of_getElem? (i := 1437) (by decide +kernel), List.mem_of_getElem? (i := 1607) (by decide +kernel), List.mem_of_getElem? (i := 1608) (by decide +kernel)⟩
theorem lw_p12 : lw_okq (⟨"CrossedModulesModel", "reads", "(I)V"⟩, 45) := ⟨⟨by decide +kernel, by decide +kernel⟩, List.mem_of_getElem? (i := 1437) (by decide +kernel), List.mem_of_getElem? (i := 1611) (by decide +kernel), List.mem_of_getElem? (i := 1612) (by decide +kernel)⟩
theorem lw_p13 : lw_okq (⟨"CrossedModulesModel", "token", "()V"⟩, 45) := ⟨⟨by decide +kernel, by decide +kernel⟩, List.mem_of_getElem? (i := 1437) (by decide +kernel), List.mem_of_getElem? (i := 1615) (by decide +kernel), List.mem_of_getElem? (i := 1616) (by decide +kernel)⟩
theorem lw_p14 : lw_okq (⟨"CrossedModulesModel", "seen", "(I)I"⟩, 45) := ⟨⟨by decide +kernel, by decide +kernel⟩, List.mem_of_getElem? (i := 1437) (by decide +kernel), List.mem_of_getElem? (i := 1619) (by decide +kernel), List.mem_of_getElem? (i := 1620) (by decide +kernel)⟩
theorem lw_p15 : lw_okq (⟨"CrossedModulesModel", "isWord", "(Ljava/lang/String;)Z"⟩, 45) := ⟨⟨by decide +kernel, by decide +kernel⟩, List.mem_of_getElem? (i := 1437) (by decide +kernel), List.mem_of_getElem? (i := 1630) (by decide +kernel), List.mem_of_getElem? (i := 1631) (by decide +kernel)⟩
def lw_privs_1 : List (MethodName × Nat) := [(⟨"CrossedModules", "appendWord", "(I)V"⟩, 14), (⟨"java/lang/Throwable", "fillInStackTrace", "(I)Ljava/lang/Throwable;"⟩, 6), (⟨"CrossedModules", "forgetChanges", "()V"⟩, 14), (⟨"CrossedModules", "demandText", "()V"⟩, 14), (⟨"CrossedModules", "groupAt", "(I)LCrossedModules$Group;"⟩, 14), (⟨"CrossedModules", "moduleAt", "(I)LCrossedModules$Crossed;"⟩, 14), (⟨"CrossedModules", "lawfulModuleAt", "(I)LCrossedModules$Crossed;"⟩, 14), (⟨"CrossedModules", "arrowAt", "(I)LCrossedModules$Arrow;"⟩, 14), (⟨"CrossedModules", "write", "(I)V"⟩, 14), (⟨"CrossedModules", "beginChange", "()V"⟩, 14), (⟨"CrossedModules", "undoPlace", "(I)I"⟩, 14), (⟨"CrossedModulesModel", "refuse", "(ZI)Z"⟩, 45), (⟨"CrossedModulesModel", "reads", "(I)V"⟩, 45), (⟨"CrossedModulesModel", "token", "()V"⟩, 45), (⟨"CrossedModulesModel", "seen", "(I)I"⟩, 45), (⟨"CrossedModulesModel", "isWord", "(Ljava/lang/String;)Z"⟩, 45)]
theorem lw_r1 : ∀ q ∈ lw_privs_1, lw_okq q := List.forall_mem_cons.mpr ⟨lw_p0, List.forall_mem_cons.mpr ⟨lw_p1, List.forall_mem_cons.mpr ⟨lw_p2, List.forall_mem_cons.mpr ⟨lw_p3, List.forall_mem_cons.mpr ⟨lw_p4, List.forall_mem_cons.mpr ⟨lw_p5, List.forall_mem_cons.mpr ⟨lw_p6, List.forall_mem_cons.mpr ⟨lw_p7, List.forall_mem_cons.mpr ⟨lw_p8, List.forall_mem_cons.mpr ⟨lw_p9, List.forall_mem_cons.mpr ⟨lw_p10, List.forall_mem_cons.mpr ⟨lw_p11, List.forall_mem_cons.mpr ⟨lw_p12, List.forall_mem_cons.mpr ⟨lw_p13, List.forall_mem_cons.mpr ⟨lw_p14, List.forall_mem_cons.mpr ⟨lw_p15, fun _ h => absurd h List.not_mem_nil⟩⟩⟩⟩⟩⟩⟩⟩⟩⟩⟩⟩⟩⟩⟩⟩
theorem lw_p16 : lw_okq (⟨"CrossedModulesModel", "failsIf", "(ZI)V"⟩, 45) := ⟨⟨by decide +kernel, by decide +kernel⟩, List.mem_of_getElem? (i := 1437) (by decide +kernel), List.mem_of_getElem? (i := 1636) (by decide +kernel), List.mem_of_getElem? (i := 1637) (by decide +kernel)⟩
theorem lw_p17 : lw_okq (⟨"CrossedModulesModel", "fails", "(I)V"⟩, 45) := ⟨⟨by decide +kernel, by decide +kernel⟩, List.mem_of_getElem? (i := 1437) (by decide +kernel), List.mem_of_getElem? (i := 1640) (by decide +kernel), List.mem_of_getElem? (i := 1641) (by decide +kernel)⟩
theorem lw_p18 : lw_okq (⟨"CrossedModulesModel", "goesOn", "()V"⟩, 45) := ⟨⟨by decide +kernel, by decide +kernel⟩, List.mem_of_getElem? (i := 1437) (by decide +kernel), List.mem_of_getElem? (i := 1644) (by decide +kernel), List.mem_of_getElem? (i := 1645) (by decide +kernel)⟩
theorem lw_p19 : lw_okq (⟨"CrossedModulesModel", "line", "()V"⟩, 45) := ⟨⟨by decide +kernel, by decide +kernel⟩, List.mem_of_getElem? (i := 1437) (by decide +kernel), List.mem_of_getElem? (i := 1648) (by decide +kernel), List.mem_of_getElem? (i := 1649) (by decide +kernel)⟩
theorem lw_p20 : lw_okq (⟨"CrossedModulesModel", "groupLine", "()V"⟩, 45) := ⟨⟨by decide +kernel, by decide +kernel⟩, List.mem_of_getElem? (i := 1437) (by decide +kernel), List.mem_of_getElem? (i := 1653) (by decide +kernel), List.mem_of_getElem? (i := 1654) (by decide +kernel)⟩
theorem lw_p21 : lw_okq (⟨"CrossedModulesModel", "newName", "(II)V"⟩, 45) := ⟨⟨by decide +kernel, by decide +kernel⟩, List.mem_of_getElem? (i := 1437) (by decide +kernel), List.mem_of_getElem? (i := 1657) (by decide +kernel), List.mem_of_getElem? (i := 1658) (by decide +kernel)⟩
theorem lw_p22 : lw_okq (⟨"CrossedModulesModel", "named", "(II)I"⟩, 45) := ⟨⟨by decide +kernel, by decide +kernel⟩, List.mem_of_getElem? (i := 1437) (by decide +kernel), List.mem_of_getElem? (i := 1661) (by decide +kernel), List.mem_of_getElem? (i := 1662) (by decide +kernel)⟩
theorem lw_p23 : lw_okq (⟨"CrossedModulesModel", "takes", "(II)I"⟩, 45) := ⟨⟨by decide +kernel, by decide +kernel⟩, List.mem_of_getElem? (i := 1437) (by decide +kernel), List.mem_of_getElem? (i := 1666) (by decide +kernel), List.mem_of_getElem? (i := 1667) (by decide +kernel)⟩
theorem lw_p24 : lw_okq (⟨"CrossedModulesModel", "laysCyclic", "(I)V"⟩, 45) := ⟨⟨by decide +kernel, by decide +kernel⟩, List.mem_of_getElem? (i := 1437) (by decide +kernel), List.mem_of_getElem? (i := 1670) (by decide +kernel), List.mem_of_getElem? (i := 1671) (by decide +kernel)⟩
theorem lw_p25 : lw_okq (⟨"CrossedModulesModel", "lays", "(III)V"⟩, 45) := ⟨⟨by decide +kernel, by decide +kernel⟩, List.mem_of_getElem? (i := 1437) (by decide +kernel), List.mem_of_getElem? (i := 1674) (by decide +kernel), List.mem_of_getElem? (i := 1675) (by decide +kernel)⟩
theorem lw_p26 : lw_okq (⟨"CrossedModulesModel", "laysDihedral", "(I)V"⟩, 45) := ⟨⟨by decide +kernel, by decide +kernel⟩, List.mem_of_getElem? (i := 1437) (by decide +kernel), List.mem_of_getElem? (i := 1679) (by decide +kernel), List.mem_of_getElem? (i := 1680) (by decide +kernel)⟩
theorem lw_p27 : lw_okq (⟨"CrossedModulesModel", "laysQuaternion", "()V"⟩, 45) := ⟨⟨by decide +kernel, by decide +kernel⟩, List.mem_of_getElem? (i := 1437) (by decide +kernel), List.mem_of_getElem? (i := 1684) (by decide +kernel), List.mem_of_getElem? (i := 1685) (by decide +kernel)⟩
theorem lw_p28 : lw_okq (⟨"CrossedModulesModel", "takesName", "(II)I"⟩, 45) := ⟨⟨by decide +kernel, by decide +kernel⟩, List.mem_of_getElem? (i := 1437) (by decide +kernel), List.mem_of_getElem? (i := 1692) (by decide +kernel), List.mem_of_getElem? (i := 1693) (by decide +kernel)⟩
theorem lw_p29 : lw_okq (⟨"CrossedModulesModel", "oldName", "(II)I"⟩, 45) := ⟨⟨by decide +kernel, by decide +kernel⟩, List.mem_of_getElem? (i := 1437) (by decide +kernel), List.mem_of_getElem? (i := 1696) (by decide +kernel), List.mem_of_getElem? (i := 1697) (by decide +kernel)⟩
theorem lw_p30 : lw_okq (⟨"CrossedModulesModel", "laysProduct", "(II)V"⟩, 45) := ⟨⟨by decide +kernel, by decide +kernel⟩, List.mem_of_getElem? (i := 1437) (by decide +kernel), List.mem_of_getElem? (i := 1700) (by decide +kernel), List.mem_of_getElem? (i := 1701) (by decide +kernel)⟩
theorem lw_p31 : lw_okq (⟨"CrossedModulesModel", "moduleLine", "()V"⟩, 45) := ⟨⟨by decide +kernel, by decide +kernel⟩, List.mem_of_getElem? (i := 1437) (by decide +kernel), List.mem_of_getElem? (i := 1708) (by decide +kernel), List.mem_of_getElem? (i := 1709) (by decide +kernel)⟩
def lw_privs_2 : List (MethodName × Nat) := [(⟨"CrossedModulesModel", "failsIf", "(ZI)V"⟩, 45), (⟨"CrossedModulesModel", "fails", "(I)V"⟩, 45), (⟨"CrossedModulesModel", "goesOn", "()V"⟩, 45), (⟨"CrossedModulesModel", "line", "()V"⟩, 45), (⟨"CrossedModulesModel", "groupLine", "()V"⟩, 45), (⟨"CrossedModulesModel", "newName", "(II)V"⟩, 45), (⟨"CrossedModulesModel", "named", "(II)I"⟩, 45), (⟨"CrossedModulesModel", "takes", "(II)I"⟩, 45), (⟨"CrossedModulesModel", "laysCyclic", "(I)V"⟩, 45), (⟨"CrossedModulesModel", "lays", "(III)V"⟩, 45), (⟨"CrossedModulesModel", "laysDihedral", "(I)V"⟩, 45), (⟨"CrossedModulesModel", "laysQuaternion", "()V"⟩, 45), (⟨"CrossedModulesModel", "takesName", "(II)I"⟩, 45), (⟨"CrossedModulesModel", "oldName", "(II)I"⟩, 45), (⟨"CrossedModulesModel", "laysProduct", "(II)V"⟩, 45), (⟨"CrossedModulesModel", "moduleLine", "()V"⟩, 45)]
theorem lw_r2 : ∀ q ∈ lw_privs_2, lw_okq q := List.forall_mem_cons.mpr ⟨lw_p16, List.forall_mem_cons.mpr ⟨lw_p17, List.forall_mem_cons.mpr ⟨lw_p18, List.forall_mem_cons.mpr ⟨lw_p19, List.forall_mem_cons.mpr ⟨lw_p20, List.forall_mem_cons.mpr ⟨lw_p21, List.forall_mem_cons.mpr ⟨lw_p22, List.forall_mem_cons.mpr ⟨lw_p23, List.forall_mem_cons.mpr ⟨lw_p24, List.forall_mem_cons.mpr ⟨lw_p25, List.forall_mem_cons.mpr ⟨lw_p26, List.forall_mem_cons.mpr ⟨lw_p27, List.forall_mem_cons.mpr ⟨lw_p28, List.forall_mem_cons.mpr ⟨lw_p29, List.forall_mem_cons.mpr ⟨lw_p30, List.forall_mem_cons.mpr ⟨lw_p31, fun _ h => absurd h List.not_mem_nil⟩⟩⟩⟩⟩⟩⟩⟩⟩⟩⟩⟩⟩⟩⟩⟩
theorem lw_p32 : lw_okq (⟨"CrossedModulesModel", "actLine", "()V"⟩, 45) := ⟨⟨by decide +kernel, by decide +kernel⟩, List.mem_of_getElem? (i := 1437) (by decide +kernel), List.mem_of_getElem? (i := 1713) (by decide +kernel), List.mem_of_getElem? (i := 1714) (by decide +kernel)⟩
theorem lw_p33 : lw_okq (⟨"CrossedModulesModel", "arrowLine", "()V"⟩, 45) := ⟨⟨by decide +kernel, by decide +kernel⟩, List.mem_of_getElem? (i := 1437) (by decide +kernel), List.mem_of_getElem? (i := 1721) (by decide +kernel), List.mem_of_getElem? (i := 1722) (by decide +kernel)⟩
theorem lw_p34 : lw_okq (⟨"CrossedModulesModel", "notLoaded", "()Z"⟩, 45) := ⟨⟨by decide +kernel, by decide +kernel⟩, List.mem_of_getElem? (i := 1437) (by decide +kernel), List.mem_of_getElem? (i := 1732) (by decide +kernel), List.mem_of_getElem? (i := 1733) (by decide +kernel)⟩
theorem lw_p35 : lw_okq (⟨"CrossedModulesModel", "nameLong", "(I)I"⟩, 45) := ⟨⟨by decide +kernel, by decide +kernel⟩, List.mem_of_getElem? (i := 1437) (by decide +kernel), List.mem_of_getElem? (i := 1740) (by decide +kernel), List.mem_of_getElem? (i := 1741) (by decide +kernel)⟩
theorem lw_p36 : lw_okq (⟨"CrossedModulesModel", "noGroup", "(I)Z"⟩, 45) := ⟨⟨by decide +kernel, by decide +kernel⟩, List.mem_of_getElem? (i := 1437) (by decide +kernel), List.mem_of_getElem? (i := 1748) (by decide +kernel), List.mem_of_getElem? (i := 1749) (by decide +kernel)⟩
theorem lw_p37 : lw_okq (⟨"CrossedModulesModel", "noElement", "(II)Z"⟩, 45) := ⟨⟨by decide +kernel, by decide +kernel⟩, List.mem_of_getElem? (i := 1437) (by decide +kernel), List.mem_of_getElem? (i := 1756) (by decide +kernel), List.mem_of_getElem? (i := 1757) (by decide +kernel)⟩
theorem lw_p38 : lw_okq (⟨"CrossedModulesModel", "of", "(III)I"⟩, 45) := ⟨⟨by decide +kernel, by decide +kernel⟩, List.mem_of_getElem? (i := 1437) (by decide +kernel), List.mem_of_getElem? (i := 1760) (by decide +kernel), List.mem_of_getElem? (i := 1761) (by decide +kernel)⟩
theorem lw_p39 : lw_okq (⟨"CrossedModulesModel", "inverseOf", "(II)I"⟩, 45) := ⟨⟨by decide +kernel, by decide +kernel⟩, List.mem_of_getElem? (i := 1437) (by decide +kernel), List.mem_of_getElem? (i := 1768) (by decide +kernel), List.mem_of_getElem? (i := 1769) (by decide +kernel)⟩
theorem lw_p40 : lw_okq (⟨"CrossedModulesModel", "orderIn", "(II)I"⟩, 45) := ⟨⟨by decide +kernel, by decide +kernel⟩, List.mem_of_getElem? (i := 1437) (by decide +kernel), List.mem_of_getElem? (i := 1776) (by decide +kernel), List.mem_of_getElem? (i := 1777) (by decide +kernel)⟩
theorem lw_p41 : lw_okq (⟨"CrossedModulesModel", "centreOf", "(I)I"⟩, 45) := ⟨⟨by decide +kernel, by decide +kernel⟩, List.mem_of_getElem? (i := 1437) (by decide +kernel), List.mem_of_getElem? (i := 1784) (by decide +kernel), List.mem_of_getElem? (i := 1785) (by decide +kernel)⟩
theorem lw_p42 : lw_okq (⟨"CrossedModulesModel", "conjugateOf", "(III)I"⟩, 45) := ⟨⟨by decide +kernel, by decide +kernel⟩, List.mem_of_getElem? (i := 1437) (by decide +kernel), List.mem_of_getElem? (i := 1792) (by decide +kernel), List.mem_of_getElem? (i := 1793) (by decide +kernel)⟩
theorem lw_p43 : lw_okq (⟨"CrossedModulesModel", "noSet", "(II)Z"⟩, 45) := ⟨⟨by decide +kernel, by decide +kernel⟩, List.mem_of_getElem? (i := 1437) (by decide +kernel), List.mem_of_getElem? (i := 1800) (by decide +kernel), List.mem_of_getElem? (i := 1801) (by decide +kernel)⟩
theorem lw_p44 : lw_okq (⟨"CrossedModulesModel", "made", "(IIZ)I"⟩, 45) := ⟨⟨by decide +kernel, by decide +kernel⟩, List.mem_of_getElem? (i := 1437) (by decide +kernel), List.mem_of_getElem? (i := 1804) (by decide +kernel), List.mem_of_getElem? (i := 1805) (by decide +kernel)⟩
theorem lw_p45 : lw_okq (⟨"CrossedModulesModel", "noModule", "(I)Z"⟩, 45) := ⟨⟨by decide +kernel, by decide +kernel⟩, List.mem_of_getElem? (i := 1437) (by decide +kernel), List.mem_of_getElem? (i := 1816) (by decide +kernel), List.mem_of_getElem? (i := 1817) (by decide +kernel)⟩
theorem lw_p46 : lw_okq (⟨"CrossedModulesModel", "noUpper", "(II)Z"⟩, 45) := ⟨⟨by decide +kernel, by decide +kernel⟩, List.mem_of_getElem? (i := 1437) (by decide +kernel), List.mem_of_getElem? (i := 1824) (by decide +kernel), List.mem_of_getElem? (i := 1825) (by decide +kernel)⟩
theorem lw_p47 : lw_okq (⟨"CrossedModulesModel", "boundaryOf", "(II)I"⟩, 45) := ⟨⟨by decide +kernel, by decide +kernel⟩, List.mem_of_getElem? (i := 1437) (by decide +kernel), List.mem_of_getElem? (i := 1828) (by decide +kernel), List.mem_of_getElem? (i := 1829) (by decide +kernel)⟩
def lw_privs_3 : List (MethodName × Nat) := [(⟨"CrossedModulesModel", "actLine", "()V"⟩, 45), (⟨"CrossedModulesModel", "arrowLine", "()V"⟩, 45), (⟨"CrossedModulesModel", "notLoaded", "()Z"⟩, 45), (⟨"CrossedModulesModel", "nameLong", "(I)I"⟩, 45), (⟨"CrossedModulesModel", "noGroup", "(I)Z"⟩, 45), (⟨"CrossedModulesModel", "noElement", "(II)Z"⟩, 45), (⟨"CrossedModulesModel", "of", "(III)I"⟩, 45), (⟨"CrossedModulesModel", "inverseOf", "(II)I"⟩, 45), (⟨"CrossedModulesModel", "orderIn", "(II)I"⟩, 45), (⟨"CrossedModulesModel", "centreOf", "(I)I"⟩, 45), (⟨"CrossedModulesModel", "conjugateOf", "(III)I"⟩, 45), (⟨"CrossedModulesModel", "noSet", "(II)Z"⟩, 45), (⟨"CrossedModulesModel", "made", "(IIZ)I"⟩, 45), (⟨"CrossedModulesModel", "noModule", "(I)Z"⟩, 45), (⟨"CrossedModulesModel", "noUpper", "(II)Z"⟩, 45), (⟨"CrossedModulesModel", "boundaryOf", "(II)I"⟩, 45)]
theorem lw_r3 : ∀ q ∈ lw_privs_3, lw_okq q := List.forall_mem_cons.mpr ⟨lw_p32, List.forall_mem_cons.mpr ⟨lw_p33, List.forall_mem_cons.mpr ⟨lw_p34, List.forall_mem_cons.mpr ⟨lw_p35, List.forall_mem_cons.mpr ⟨lw_p36, List.forall_mem_cons.mpr ⟨lw_p37, List.forall_mem_cons.mpr ⟨lw_p38, List.forall_mem_cons.mpr ⟨lw_p39, List.forall_mem_cons.mpr ⟨lw_p40, List.forall_mem_cons.mpr ⟨lw_p41, List.forall_mem_cons.mpr ⟨lw_p42, List.forall_mem_cons.mpr ⟨lw_p43, List.forall_mem_cons.mpr ⟨lw_p44, List.forall_mem_cons.mpr ⟨lw_p45, List.forall_mem_cons.mpr ⟨lw_p46, List.forall_mem_cons.mpr ⟨lw_p47, fun _ h => absurd h List.not_mem_nil⟩⟩⟩⟩⟩⟩⟩⟩⟩⟩⟩⟩⟩⟩⟩⟩
theorem lw_p48 : lw_okq (⟨"CrossedModulesModel", "noLower", "(II)Z"⟩, 45) := ⟨⟨by decide +kernel, by decide +kernel⟩, List.mem_of_getElem? (i := 1437) (by decide +kernel), List.mem_of_getElem? (i := 1836) (by decide +kernel), List.mem_of_getElem? (i := 1837) (by decide +kernel)⟩
theorem lw_p49 : lw_okq (⟨"CrossedModulesModel", "on", "(III)I"⟩, 45) := ⟨⟨by decide +kernel, by decide +kernel⟩, List.mem_of_getElem? (i := 1437) (by decide +kernel), List.mem_of_getElem? (i := 1840) (by decide +kernel), List.mem_of_getElem? (i := 1841) (by decide +kernel)⟩
theorem lw_p50 : lw_okq (⟨"CrossedModulesModel", "whyOf", "(I)I"⟩, 45) := ⟨⟨by decide +kernel, by decide +kernel⟩, List.mem_of_getElem? (i := 1437) (by decide +kernel), List.mem_of_getElem? (i := 1848) (by decide +kernel), List.mem_of_getElem? (i := 1849) (by decide +kernel)⟩
theorem lw_p51 : lw_okq (⟨"CrossedModulesModel", "breaksProducts", "(I)Z"⟩, 45) := ⟨⟨by decide +kernel, by decide +kernel⟩, List.mem_of_getElem? (i := 1437) (by decide +kernel), List.mem_of_getElem? (i := 1852) (by decide +kernel), List.mem_of_getElem? (i := 1853) (by decide +kernel)⟩
theorem lw_p52 : lw_okq (⟨"CrossedModulesModel", "uppers", "(I)I"⟩, 45) := ⟨⟨by decide +kernel, by decide +kernel⟩, List.mem_of_getElem? (i := 1437) (by decide +kernel), List.mem_of_getElem? (i := 1856) (by decide +kernel), List.mem_of_getElem? (i := 1857) (by decide +kernel)⟩
theorem lw_p53 : lw_okq (⟨"CrossedModulesModel", "up", "(III)I"⟩, 45) := ⟨⟨by decide +kernel, by decide +kernel⟩, List.mem_of_getElem? (i := 1437) (by decide +kernel), List.mem_of_getElem? (i := 1860) (by decide +kernel), List.mem_of_getElem? (i := 1861) (by decide +kernel)⟩
theorem lw_p54 : lw_okq (⟨"CrossedModulesModel", "down", "(III)I"⟩, 45) := ⟨⟨by decide +kernel, by decide +kernel⟩, List.mem_of_getElem? (i := 1437) (by decide +kernel), List.mem_of_getElem? (i := 1864) (by decide +kernel), List.mem_of_getElem? (i := 1865) (by decide +kernel)⟩
theorem lw_p55 : lw_okq (⟨"CrossedModulesModel", "breaksMaps", "(I)Z"⟩, 45) := ⟨⟨by decide +kernel, by decide +kernel⟩, List.mem_of_getElem? (i := 1437) (by decide +kernel), List.mem_of_getElem? (i := 1868) (by decide +kernel), List.mem_of_getElem? (i := 1869) (by decide +kernel)⟩
theorem lw_p56 : lw_okq (⟨"CrossedModulesModel", "lowers", "(I)I"⟩, 45) := ⟨⟨by decide +kernel, by decide +kernel⟩, List.mem_of_getElem? (i := 1437) (by decide +kernel), List.mem_of_getElem? (i := 1872) (by decide +kernel), List.mem_of_getElem? (i := 1873) (by decide +kernel)⟩
theorem lw_p57 : lw_okq (⟨"CrossedModulesModel", "breaksActions", "(I)Z"⟩, 45) := ⟨⟨by decide +kernel, by decide +kernel⟩, List.mem_of_getElem? (i := 1437) (by decide +kernel), List.mem_of_getElem? (i := 1876) (by decide +kernel), List.mem_of_getElem? (i := 1877) (by decide +kernel)⟩
theorem lw_p58 : lw_okq (⟨"CrossedModulesModel", "breaksBoundaries", "(I)Z"⟩, 45) := ⟨⟨by decide +kernel, by decide +kernel⟩, List.mem_of_getElem? (i := 1437) (by decide +kernel), List.mem_of_getElem? (i := 1880) (by decide +kernel), List.mem_of_getElem? (i := 1881) (by decide +kernel)⟩
theorem lw_p59 : lw_okq (⟨"CrossedModulesModel", "breaksConjugates", "(I)Z"⟩, 45) := ⟨⟨by decide +kernel, by decide +kernel⟩, List.mem_of_getElem? (i := 1437) (by decide +kernel), List.mem_of_getElem? (i := 1884) (by decide +kernel), List.mem_of_getElem? (i := 1885) (by decide +kernel)⟩
theorem lw_p60 : lw_okq (⟨"CrossedModulesModel", "lawfulNow", "()I"⟩, 45) := ⟨⟨by decide +kernel, by decide +kernel⟩, List.mem_of_getElem? (i := 1437) (by decide +kernel), List.mem_of_getElem? (i := 1892) (by decide +kernel), List.mem_of_getElem? (i := 1893) (by decide +kernel)⟩
theorem lw_p61 : lw_okq (⟨"CrossedModulesModel", "kernelOf", "(I)I"⟩, 45) := ⟨⟨by decide +kernel, by decide +kernel⟩, List.mem_of_getElem? (i := 1437) (by decide +kernel), List.mem_of_getElem? (i := 1900) (by decide +kernel), List.mem_of_getElem? (i := 1901) (by decide +kernel)⟩
theorem lw_p62 : lw_okq (⟨"CrossedModulesModel", "imageOf", "(I)I"⟩, 45) := ⟨⟨by decide +kernel, by decide +kernel⟩, List.mem_of_getElem? (i := 1437) (by decide +kernel), List.mem_of_getElem? (i := 1908) (by decide +kernel), List.mem_of_getElem? (i := 1909) (by decide +kernel)⟩
theorem lw_p63 : lw_okq (⟨"CrossedModulesModel", "notLawful", "(I)Z"⟩, 45) := ⟨⟨by decide +kernel, by decide +kernel⟩, List.mem_of_getElem? (i := 1437) (by decide +kernel), List.mem_of_getElem? (i := 1928) (by decide +kernel), List.mem_of_getElem? (i := 1929) (by decide +kernel)⟩
def lw_privs_4 : List (MethodName × Nat) := [(⟨"CrossedModulesModel", "noLower", "(II)Z"⟩, 45), (⟨"CrossedModulesModel", "on", "(III)I"⟩, 45), (⟨"CrossedModulesModel", "whyOf", "(I)I"⟩, 45), (⟨"CrossedModulesModel", "breaksProducts", "(I)Z"⟩, 45), (⟨"CrossedModulesModel", "uppers", "(I)I"⟩, 45), (⟨"CrossedModulesModel", "up", "(III)I"⟩, 45), (⟨"CrossedModulesModel", "down", "(III)I"⟩, 45), (⟨"CrossedModulesModel", "breaksMaps", "(I)Z"⟩, 45), (⟨"CrossedModulesModel", "lowers", "(I)I"⟩, 45), (⟨"CrossedModulesModel", "breaksActions", "(I)Z"⟩, 45), (⟨"CrossedModulesModel", "breaksBoundaries", "(I)Z"⟩, 45), (⟨"CrossedModulesModel", "breaksConjugates", "(I)Z"⟩, 45), (⟨"CrossedModulesModel", "lawfulNow", "()I"⟩, 45), (⟨"CrossedModulesModel", "kernelOf", "(I)I"⟩, 45), (⟨"CrossedModulesModel", "imageOf", "(I)I"⟩, 45), (⟨"CrossedModulesModel", "notLawful", "(I)Z"⟩, 45)]
theorem lw_r4 : ∀ q ∈ lw_privs_4, lw_okq q := List.forall_mem_cons.mpr ⟨lw_p48, List.forall_mem_cons.mpr ⟨lw_p49, List.forall_mem_cons.mpr ⟨lw_p50, List.forall_mem_cons.mpr ⟨lw_p51, List.forall_mem_cons.mpr ⟨lw_p52, List.forall_mem_cons.mpr ⟨lw_p53, List.forall_mem_cons.mpr ⟨lw_p54, List.forall_mem_cons.mpr ⟨lw_p55, List.forall_mem_cons.mpr ⟨lw_p56, List.forall_mem_cons.mpr ⟨lw_p57, List.forall_mem_cons.mpr ⟨lw_p58, List.forall_mem_cons.mpr ⟨lw_p59, List.forall_mem_cons.mpr ⟨lw_p60, List.forall_mem_cons.mpr ⟨lw_p61, List.forall_mem_cons.mpr ⟨lw_p62, List.forall_mem_cons.mpr ⟨lw_p63, fun _ h => absurd h List.not_mem_nil⟩⟩⟩⟩⟩⟩⟩⟩⟩⟩⟩⟩⟩⟩⟩⟩
theorem lw_p64 : lw_okq (⟨"CrossedModulesModel", "laysClasses", "(I)I"⟩, 45) := ⟨⟨by decide +kernel, by decide +kernel⟩, List.mem_of_getElem? (i := 1437) (by decide +kernel), List.mem_of_getElem? (i := 1932) (by decide +kernel), List.mem_of_getElem? (i := 1933) (by decide +kernel)⟩
theorem lw_p65 : lw_okq (⟨"CrossedModulesModel", "classProduct", "(III)I"⟩, 45) := ⟨⟨by decide +kernel, by decide +kernel⟩, List.mem_of_getElem? (i := 1437) (by decide +kernel), List.mem_of_getElem? (i := 1944) (by decide +kernel), List.mem_of_getElem? (i := 1945) (by decide +kernel)⟩
theorem lw_p66 : lw_okq (⟨"CrossedModulesModel", "profileOf", "(IZI)I"⟩, 45) := ⟨⟨by decide +kernel, by decide +kernel⟩, List.mem_of_getElem? (i := 1437) (by decide +kernel), List.mem_of_getElem? (i := 1956) (by decide +kernel), List.mem_of_getElem? (i := 1957) (by decide +kernel)⟩
theorem lw_p67 : lw_okq (⟨"CrossedModulesModel", "alike", "(II)Z"⟩, 45) := ⟨⟨by decide +kernel, by decide +kernel⟩, List.mem_of_getElem? (i := 1437) (by decide +kernel), List.mem_of_getElem? (i := 1964) (by decide +kernel), List.mem_of_getElem? (i := 1965) (by decide +kernel)⟩
theorem lw_p68 : lw_okq (⟨"CrossedModulesModel", "firstLike", "(I)I"⟩, 45) := ⟨⟨by decide +kernel, by decide +kernel⟩, List.mem_of_getElem? (i := 1437) (by decide +kernel), List.mem_of_getElem? (i := 1972) (by decide +kernel), List.mem_of_getElem? (i := 1973) (by decide +kernel)⟩
theorem lw_p69 : lw_okq (⟨"CrossedModulesModel", "noLarge", "(II)Z"⟩, 45) := ⟨⟨by decide +kernel, by decide +kernel⟩, List.mem_of_getElem? (i := 1437) (by decide +kernel), List.mem_of_getElem? (i := 1984) (by decide +kernel), List.mem_of_getElem? (i := 1985) (by decide +kernel)⟩
theorem lw_p70 : lw_okq (⟨"CrossedModulesModel", "large", "(III)I"⟩, 45) := ⟨⟨by decide +kernel, by decide +kernel⟩, List.mem_of_getElem? (i := 1437) (by decide +kernel), List.mem_of_getElem? (i := 1988) (by decide +kernel), List.mem_of_getElem? (i := 1989) (by decide +kernel)⟩
theorem lw_p71 : lw_okq (⟨"CrossedModulesModel", "targetOf", "(II)I"⟩, 45) := ⟨⟨by decide +kernel, by decide +kernel⟩, List.mem_of_getElem? (i := 1437) (by decide +kernel), List.mem_of_getElem? (i := 1996) (by decide +kernel), List.mem_of_getElem? (i := 1997) (by decide +kernel)⟩
theorem lw_p72 : lw_okq (⟨"CrossedModulesModel", "noArrow", "(I)Z"⟩, 45) := ⟨⟨by decide +kernel, by decide +kernel⟩, List.mem_of_getElem? (i := 1437) (by decide +kernel), List.mem_of_getElem? (i := 2012) (by decide +kernel), List.mem_of_getElem? (i := 2013) (by decide +kernel)⟩
theorem lw_p73 : lw_okq (⟨"CrossedModulesModel", "noTop", "(II)Z"⟩, 45) := ⟨⟨by decide +kernel, by decide +kernel⟩, List.mem_of_getElem? (i := 1437) (by decide +kernel), List.mem_of_getElem? (i := 2020) (by decide +kernel), List.mem_of_getElem? (i := 2021) (by decide +kernel)⟩
theorem lw_p74 : lw_okq (⟨"CrossedModulesModel", "topOf", "(II)I"⟩, 45) := ⟨⟨by decide +kernel, by decide +kernel⟩, List.mem_of_getElem? (i := 1437) (by decide +kernel), List.mem_of_getElem? (i := 2024) (by decide +kernel), List.mem_of_getElem? (i := 2025) (by decide +kernel)⟩
theorem lw_p75 : lw_okq (⟨"CrossedModulesModel", "noBottom", "(II)Z"⟩, 45) := ⟨⟨by decide +kernel, by decide +kernel⟩, List.mem_of_getElem? (i := 1437) (by decide +kernel), List.mem_of_getElem? (i := 2032) (by decide +kernel), List.mem_of_getElem? (i := 2033) (by decide +kernel)⟩
theorem lw_p76 : lw_okq (⟨"CrossedModulesModel", "bottomOf", "(II)I"⟩, 45) := ⟨⟨by decide +kernel, by decide +kernel⟩, List.mem_of_getElem? (i := 1437) (by decide +kernel), List.mem_of_getElem? (i := 2036) (by decide +kernel), List.mem_of_getElem? (i := 2037) (by decide +kernel)⟩
theorem lw_p77 : lw_okq (⟨"CrossedModulesModel", "whyArrow", "(I)I"⟩, 45) := ⟨⟨by decide +kernel, by decide +kernel⟩, List.mem_of_getElem? (i := 1437) (by decide +kernel), List.mem_of_getElem? (i := 2044) (by decide +kernel), List.mem_of_getElem? (i := 2045) (by decide +kernel)⟩
theorem lw_p78 : lw_okq (⟨"CrossedModulesModel", "breaksTops", "(I)Z"⟩, 45) := ⟨⟨by decide +kernel, by decide +kernel⟩, List.mem_of_getElem? (i := 1437) (by decide +kernel), List.mem_of_getElem? (i := 2048) (by decide +kernel), List.mem_of_getElem? (i := 2049) (by decide +kernel)⟩
theorem lw_p79 : lw_okq (⟨"CrossedModulesModel", "breaksBottoms", "(I)Z"⟩, 45) := ⟨⟨by decide +kernel, by decide +kernel⟩, List.mem_of_getElem? (i := 1437) (by decide +kernel), List.mem_of_getElem? (i := 2052) (by decide +kernel), List.mem_of_getElem? (i := 2053) (by decide +kernel)⟩
def lw_privs_5 : List (MethodName × Nat) := [(⟨"CrossedModulesModel", "laysClasses", "(I)I"⟩, 45), (⟨"CrossedModulesModel", "classProduct", "(III)I"⟩, 45), (⟨"CrossedModulesModel", "profileOf", "(IZI)I"⟩, 45), (⟨"CrossedModulesModel", "alike", "(II)Z"⟩, 45), (⟨"CrossedModulesModel", "firstLike", "(I)I"⟩, 45), (⟨"CrossedModulesModel", "noLarge", "(II)Z"⟩, 45), (⟨"CrossedModulesModel", "large", "(III)I"⟩, 45), (⟨"CrossedModulesModel", "targetOf", "(II)I"⟩, 45), (⟨"CrossedModulesModel", "noArrow", "(I)Z"⟩, 45), (⟨"CrossedModulesModel", "noTop", "(II)Z"⟩, 45), (⟨"CrossedModulesModel", "topOf", "(II)I"⟩, 45), (⟨"CrossedModulesModel", "noBottom", "(II)Z"⟩, 45), (⟨"CrossedModulesModel", "bottomOf", "(II)I"⟩, 45), (⟨"CrossedModulesModel", "whyArrow", "(I)I"⟩, 45), (⟨"CrossedModulesModel", "breaksTops", "(I)Z"⟩, 45), (⟨"CrossedModulesModel", "breaksBottoms", "(I)Z"⟩, 45)]
theorem lw_r5 : ∀ q ∈ lw_privs_5, lw_okq q := List.forall_mem_cons.mpr ⟨lw_p64, List.forall_mem_cons.mpr ⟨lw_p65, List.forall_mem_cons.mpr ⟨lw_p66, List.forall_mem_cons.mpr ⟨lw_p67, List.forall_mem_cons.mpr ⟨lw_p68, List.forall_mem_cons.mpr ⟨lw_p69, List.forall_mem_cons.mpr ⟨lw_p70, List.forall_mem_cons.mpr ⟨lw_p71, List.forall_mem_cons.mpr ⟨lw_p72, List.forall_mem_cons.mpr ⟨lw_p73, List.forall_mem_cons.mpr ⟨lw_p74, List.forall_mem_cons.mpr ⟨lw_p75, List.forall_mem_cons.mpr ⟨lw_p76, List.forall_mem_cons.mpr ⟨lw_p77, List.forall_mem_cons.mpr ⟨lw_p78, List.forall_mem_cons.mpr ⟨lw_p79, fun _ h => absurd h List.not_mem_nil⟩⟩⟩⟩⟩⟩⟩⟩⟩⟩⟩⟩⟩⟩⟩⟩
theorem lw_p80 : lw_okq (⟨"CrossedModulesModel", "breaksSquare", "(I)Z"⟩, 45) := ⟨⟨by decide +kernel, by decide +kernel⟩, List.mem_of_getElem? (i := 1437) (by decide +kernel), List.mem_of_getElem? (i := 2056) (by decide +kernel), List.mem_of_getElem? (i := 2057) (by decide +kernel)⟩
theorem lw_p81 : lw_okq (⟨"CrossedModulesModel", "breaksOn", "(I)Z"⟩, 45) := ⟨⟨by decide +kernel, by decide +kernel⟩, List.mem_of_getElem? (i := 1437) (by decide +kernel), List.mem_of_getElem? (i := 2060) (by decide +kernel), List.mem_of_getElem? (i := 2061) (by decide +kernel)⟩
theorem lw_p82 : lw_okq (⟨"CrossedModulesModel", "isEqual", "(I)Z"⟩, 45) := ⟨⟨by decide +kernel, by decide +kernel⟩, List.mem_of_getElem? (i := 1437) (by decide +kernel), List.mem_of_getElem? (i := 2068) (by decide +kernel), List.mem_of_getElem? (i := 2069) (by decide +kernel)⟩
theorem lw_p83 : lw_okq (⟨"CrossedModulesModel", "allEqual", "()I"⟩, 45) := ⟨⟨by decide +kernel, by decide +kernel⟩, List.mem_of_getElem? (i := 1437) (by decide +kernel), List.mem_of_getElem? (i := 2079) (by decide +kernel), List.mem_of_getElem? (i := 2080) (by decide +kernel)⟩
theorem lw_p84 : lw_okq (⟨"CrossedModulesModel", "onward", "(II)I"⟩, 45) := ⟨⟨by decide +kernel, by decide +kernel⟩, List.mem_of_getElem? (i := 1437) (by decide +kernel), List.mem_of_getElem? (i := 2087) (by decide +kernel), List.mem_of_getElem? (i := 2088) (by decide +kernel)⟩
theorem lw_p85 : lw_okq (⟨"CrossedModulesModel", "says", "(I)V"⟩, 45) := ⟨⟨by decide +kernel, by decide +kernel⟩, List.mem_of_getElem? (i := 1437) (by decide +kernel), List.mem_of_getElem? (i := 2107) (by decide +kernel), List.mem_of_getElem? (i := 2108) (by decide +kernel)⟩
theorem lw_p86 : lw_okq (⟨"CrossedModulesModel", "touches", "(I)V"⟩, 45) := ⟨⟨by decide +kernel, by decide +kernel⟩, List.mem_of_getElem? (i := 1437) (by decide +kernel), List.mem_of_getElem? (i := 2123) (by decide +kernel), List.mem_of_getElem? (i := 2124) (by decide +kernel)⟩
theorem lw_p87 : lw_okq (⟨"CrossedModulesModel", "begins", "()V"⟩, 45) := ⟨⟨by decide +kernel, by decide +kernel⟩, List.mem_of_getElem? (i := 1437) (by decide +kernel), List.mem_of_getElem? (i := 2127) (by decide +kernel), List.mem_of_getElem? (i := 2128) (by decide +kernel)⟩
theorem lw_p88 : lw_okq (⟨"CrossedModulesModel", "keeps", "(I)V"⟩, 45) := ⟨⟨by decide +kernel, by decide +kernel⟩, List.mem_of_getElem? (i := 1437) (by decide +kernel), List.mem_of_getElem? (i := 2131) (by decide +kernel), List.mem_of_getElem? (i := 2132) (by decide +kernel)⟩
theorem lw_p89 : lw_okq (⟨"CrossedModulesModel", "ends", "(I)V"⟩, 45) := ⟨⟨by decide +kernel, by decide +kernel⟩, List.mem_of_getElem? (i := 1437) (by decide +kernel), List.mem_of_getElem? (i := 2135) (by decide +kernel), List.mem_of_getElem? (i := 2136) (by decide +kernel)⟩
theorem lw_p90 : lw_okq (⟨"CrossedModulesModel", "acts", "(IZ)I"⟩, 45) := ⟨⟨by decide +kernel, by decide +kernel⟩, List.mem_of_getElem? (i := 1437) (by decide +kernel), List.mem_of_getElem? (i := 2147) (by decide +kernel), List.mem_of_getElem? (i := 2148) (by decide +kernel)⟩
theorem lw_p91 : lw_okq (⟨"CrossedModulesModel", "fetches", "(I)V"⟩, 45) := ⟨⟨by decide +kernel, by decide +kernel⟩, List.mem_of_getElem? (i := 1437) (by decide +kernel), List.mem_of_getElem? (i := 2167) (by decide +kernel), List.mem_of_getElem? (i := 2168) (by decide +kernel)⟩
def lw_privs_6 : List (MethodName × Nat) := [(⟨"CrossedModulesModel", "breaksSquare", "(I)Z"⟩, 45), (⟨"CrossedModulesModel", "breaksOn", "(I)Z"⟩, 45), (⟨"CrossedModulesModel", "isEqual", "(I)Z"⟩, 45), (⟨"CrossedModulesModel", "allEqual", "()I"⟩, 45), (⟨"CrossedModulesModel", "onward", "(II)I"⟩, 45), (⟨"CrossedModulesModel", "says", "(I)V"⟩, 45), (⟨"CrossedModulesModel", "touches", "(I)V"⟩, 45), (⟨"CrossedModulesModel", "begins", "()V"⟩, 45), (⟨"CrossedModulesModel", "keeps", "(I)V"⟩, 45), (⟨"CrossedModulesModel", "ends", "(I)V"⟩, 45), (⟨"CrossedModulesModel", "acts", "(IZ)I"⟩, 45), (⟨"CrossedModulesModel", "fetches", "(I)V"⟩, 45)]
theorem lw_r6 : ∀ q ∈ lw_privs_6, lw_okq q := List.forall_mem_cons.mpr ⟨lw_p80, List.forall_mem_cons.mpr ⟨lw_p81, List.forall_mem_cons.mpr ⟨lw_p82, List.forall_mem_cons.mpr ⟨lw_p83, List.forall_mem_cons.mpr ⟨lw_p84, List.forall_mem_cons.mpr ⟨lw_p85, List.forall_mem_cons.mpr ⟨lw_p86, List.forall_mem_cons.mpr ⟨lw_p87, List.forall_mem_cons.mpr ⟨lw_p88, List.forall_mem_cons.mpr ⟨lw_p89, List.forall_mem_cons.mpr ⟨lw_p90, List.forall_mem_cons.mpr ⟨lw_p91, fun _ h => absurd h List.not_mem_nil⟩⟩⟩⟩⟩⟩⟩⟩⟩⟩⟩⟩
def lw_privs : List (MethodName × Nat) := lw_privs_1 ++ (lw_privs_2 ++ (lw_privs_3 ++ (lw_privs_4 ++ (lw_privs_5 ++ (lw_privs_6)))))
def lw_tbl : List Cond := k2_sels lw_privs ++ tables_1
theorem lw_privs_ok : ∀ q ∈ lw_privs, lw_okq q := by
  show ∀ q ∈ lw_privs_1 ++ (lw_privs_2 ++ (lw_privs_3 ++ (lw_privs_4 ++ (lw_privs_5 ++ (lw_privs_6))))), lw_okq q
  exact List.forall_mem_append.mpr ⟨lw_r1, List.forall_mem_append.mpr ⟨lw_r2, List.forall_mem_append.mpr ⟨lw_r3, List.forall_mem_append.mpr ⟨lw_r4, List.forall_mem_append.mpr ⟨lw_r5, lw_r6⟩⟩⟩⟩⟩
-- ===== end of PART A; then your names; then what follows =====
def RX0 : String := "CrossedModules$Arrow"
def TX0 : u_T := fun k => match k with
  | 0 => ("CrossedModules$Arrow", "from", "LCrossedModules$Crossed;", false)
  | 1 => ("CrossedModules$Arrow", "to", "LCrossedModules$Crossed;", false)
  | 2 => ("CrossedModules$Arrow", "tops", "[I", true)
  | _ => ("CrossedModules$Arrow", "bottoms", "[I", true)
def tyX0 : Nat → FieldType := fun k => match k with
  | 0 => .object "CrossedModules$Crossed"
  | 1 => .object "CrossedModules$Crossed"
  | 2 => .array .int
  | _ => .array .int
abbrev wsX00 : List Cond := u_ws RX0 TX0 4
theorem nmX0 : ∀ a, a < 4 → ∀ b, b < 4 → a ≠ b → (TX0 a).2.1 ≠ (TX0 b).2.1 := by decide +kernel
theorem tyX0_ok : ∀ k, k < 4 → parseFieldDescriptor (TX0 k).2.2.1 = some (tyX0 k) := by decide +kernel
abbrev cX0_init : ByteArray := prog_2_method_1_code
def yX0_init : MethodName := ⟨RX0, "<init>", "(LCrossedModules$Crossed;)V"⟩
abbrev cX0_topOf : ByteArray := prog_2_method_2_code
def yX0_topOf : MethodName := ⟨RX0, "topOf", "(I)I"⟩
abbrev cX0_bottomOf : ByteArray := prog_2_method_3_code
def yX0_bottomOf : MethodName := ⟨RX0, "bottomOf", "(I)I"⟩
abbrev cX0_firstReason : ByteArray := prog_2_method_4_code
def yX0_firstReason : MethodName := ⟨RX0, "firstReason", "()I"⟩
abbrev cX0_keepsProducts : ByteArray := prog_2_method_5_code
def yX0_keepsProducts : MethodName := ⟨RX0, "keepsProducts", "([ILCrossedModules$Group;LCrossedModules$Group;)Z"⟩
abbrev cX0_keepsBoundaries : ByteArray := prog_2_method_6_code
def yX0_keepsBoundaries : MethodName := ⟨RX0, "keepsBoundaries", "()Z"⟩
abbrev cX0_keepsActions : ByteArray := prog_2_method_7_code
def yX0_keepsActions : MethodName := ⟨RX0, "keepsActions", "()Z"⟩
abbrev cX0_joinsAlikePairs : ByteArray := prog_2_method_8_code
def yX0_joinsAlikePairs : MethodName := ⟨RX0, "joinsAlikePairs", "()Z"⟩
abbrev cX0_partsKernel : ByteArray := prog_2_method_9_code
def yX0_partsKernel : MethodName := ⟨RX0, "partsKernel", "(I)Z"⟩
abbrev cX0_matchesClasses : ByteArray := prog_2_method_10_code
def yX0_matchesClasses : MethodName := ⟨RX0, "matchesClasses", "()Z"⟩
def RX1 : String := "CrossedModules$Crossed"
def TX1 : u_T := fun k => match k with
  | 0 => ("CrossedModules$Crossed", "number", "I", true)
  | 1 => ("CrossedModules$Crossed", "upper", "LCrossedModules$Group;", false)
  | 2 => ("CrossedModules$Crossed", "lower", "LCrossedModules$Group;", false)
  | 3 => ("CrossedModules$Crossed", "boundaries", "[I", true)
  | 4 => ("CrossedModules$Crossed", "actions", "[I", true)
  | 5 => ("CrossedModules$Crossed", "pair", "LCrossedModules$Pair;", true)
  | 6 => ("CrossedModules$Crossed", "told", "I", false)
  | _ => ("CrossedModules$Crossed", "reason", "I", false)
def tyX1 : Nat → FieldType := fun k => match k with
  | 0 => .int
  | 1 => .object "CrossedModules$Group"
  | 2 => .object "CrossedModules$Group"
  | 3 => .array .int
  | 4 => .array .int
  | 5 => .object "CrossedModules$Pair"
  | 6 => .int
  | _ => .int
abbrev wsX10 : List Cond := u_ws RX1 TX1 8
theorem nmX1 : ∀ a, a < 8 → ∀ b, b < 8 → a ≠ b → (TX1 a).2.1 ≠ (TX1 b).2.1 := by decide +kernel
theorem tyX1_ok : ∀ k, k < 8 → parseFieldDescriptor (TX1 k).2.2.1 = some (tyX1 k) := by decide +kernel
abbrev cX1_init : ByteArray := prog_3_method_1_code
def yX1_init : MethodName := ⟨RX1, "<init>", "(ILCrossedModules$Group;)V"⟩
abbrev cX1_start : ByteArray := prog_3_method_2_code
def yX1_start : MethodName := ⟨RX1, "start", "(LCrossedModules$Group;LCrossedModules$Group;)V"⟩
abbrev cX1_boundaryOf : ByteArray := prog_3_method_3_code
def yX1_boundaryOf : MethodName := ⟨RX1, "boundaryOf", "(I)I"⟩
abbrev cX1_actionOf : ByteArray := prog_3_method_4_code
def yX1_actionOf : MethodName := ⟨RX1, "actionOf", "(II)I"⟩
abbrev cX1_replaceAction : ByteArray := prog_3_method_5_code
def yX1_replaceAction : MethodName := ⟨RX1, "replaceAction", "(III)I"⟩
abbrev cX1_becomeRestful : ByteArray := prog_3_method_6_code
def yX1_becomeRestful : MethodName := ⟨RX1, "becomeRestful", "()I"⟩
abbrev cX1_becomeConjugation : ByteArray := prog_3_method_7_code
def yX1_becomeConjugation : MethodName := ⟨RX1, "becomeConjugation", "()I"⟩
abbrev cX1_firstReason : ByteArray := prog_3_method_8_code
def yX1_firstReason : MethodName := ⟨RX1, "firstReason", "()I"⟩
abbrev cX1_boundaryKeepsProducts : ByteArray := prog_3_method_9_code
def yX1_boundaryKeepsProducts : MethodName := ⟨RX1, "boundaryKeepsProducts", "()Z"⟩
abbrev cX1_isAutomorphism : ByteArray := prog_3_method_10_code
def yX1_isAutomorphism : MethodName := ⟨RX1, "isAutomorphism", "(I)Z"⟩
abbrev cX1_actionKeepsProducts : ByteArray := prog_3_method_11_code
def yX1_actionKeepsProducts : MethodName := ⟨RX1, "actionKeepsProducts", "()Z"⟩
abbrev cX1_boundaryFollowsAction : ByteArray := prog_3_method_12_code
def yX1_boundaryFollowsAction : MethodName := ⟨RX1, "boundaryFollowsAction", "()Z"⟩
abbrev cX1_boundaryActsAsConjugation : ByteArray := prog_3_method_13_code
def yX1_boundaryActsAsConjugation : MethodName := ⟨RX1, "boundaryActsAsConjugation", "()Z"⟩
abbrev cX1_kernelSet : ByteArray := prog_3_method_14_code
def yX1_kernelSet : MethodName := ⟨RX1, "kernelSet", "()I"⟩
abbrev cX1_imageSet : ByteArray := prog_3_method_15_code
def yX1_imageSet : MethodName := ⟨RX1, "imageSet", "()I"⟩
abbrev cX1_stabilizer : ByteArray := prog_3_method_16_code
def yX1_stabilizer : MethodName := ⟨RX1, "stabilizer", "(I)I"⟩
abbrev cX1_orbitSet : ByteArray := prog_3_method_17_code
def yX1_orbitSet : MethodName := ⟨RX1, "orbitSet", "(I)I"⟩
abbrev cX1_freshPair : ByteArray := prog_3_method_18_code
def yX1_freshPair : MethodName := ⟨RX1, "freshPair", "()LCrossedModules$Pair;"⟩
abbrev cX1_hasLarge : ByteArray := prog_3_method_19_code
def yX1_hasLarge : MethodName := ⟨RX1, "hasLarge", "(I)Z"⟩
abbrev cX1_upperPart : ByteArray := prog_3_method_20_code
def yX1_upperPart : MethodName := ⟨RX1, "upperPart", "(I)I"⟩
abbrev cX1_lowerPart : ByteArray := prog_3_method_21_code
def yX1_lowerPart : MethodName := ⟨RX1, "lowerPart", "(I)I"⟩
abbrev cX1_largeProduct : ByteArray := prog_3_method_22_code
def yX1_largeProduct : MethodName := ⟨RX1, "largeProduct", "(II)I"⟩
abbrev cX1_largePeriod : ByteArray := prog_3_method_23_code
def yX1_largePeriod : MethodName := ⟨RX1, "largePeriod", "(I)I"⟩
abbrev cX1_targetOf : ByteArray := prog_3_method_24_code
def yX1_targetOf : MethodName := ⟨RX1, "targetOf", "(II)I"⟩
abbrev cX1_countBetween : ByteArray := prog_3_method_25_code
def yX1_countBetween : MethodName := ⟨RX1, "countBetween", "(II)I"⟩
def RX2 : String := "CrossedModules$Group"
def TX2 : u_T := fun k => match k with
  | 0 => ("CrossedModules$Group", "number", "I", true)
  | 1 => ("CrossedModules$Group", "table", "[I", true)
  | 2 => ("CrossedModules$Group", "opposites", "[I", true)
  | _ => ("CrossedModules$Group", "elements", "I", false)
def tyX2 : Nat → FieldType := fun k => match k with
  | 0 => .int
  | 1 => .array .int
  | 2 => .array .int
  | _ => .int
abbrev wsX20 : List Cond := u_ws RX2 TX2 4
theorem nmX2 : ∀ a, a < 4 → ∀ b, b < 4 → a ≠ b → (TX2 a).2.1 ≠ (TX2 b).2.1 := by decide +kernel
theorem tyX2_ok : ∀ k, k < 4 → parseFieldDescriptor (TX2 k).2.2.1 = some (tyX2 k) := by decide +kernel
abbrev cX2_init : ByteArray := prog_4_method_1_code
def yX2_init : MethodName := ⟨RX2, "<init>", "(I)V"⟩
abbrev cX2_has : ByteArray := prog_4_method_2_code
def yX2_has : MethodName := ⟨RX2, "has", "(I)Z"⟩
abbrev cX2_hasAll : ByteArray := prog_4_method_3_code
def yX2_hasAll : MethodName := ⟨RX2, "hasAll", "(I)Z"⟩
abbrev cX2_product : ByteArray := prog_4_method_4_code
def yX2_product : MethodName := ⟨RX2, "product", "(II)I"⟩
abbrev cX2_setProduct : ByteArray := prog_4_method_5_code
def yX2_setProduct : MethodName := ⟨RX2, "setProduct", "(III)V"⟩
abbrev cX2_opposite : ByteArray := prog_4_method_6_code
def yX2_opposite : MethodName := ⟨RX2, "opposite", "(I)I"⟩
abbrev cX2_conjugateBy : ByteArray := prog_4_method_7_code
def yX2_conjugateBy : MethodName := ⟨RX2, "conjugateBy", "(II)I"⟩
abbrev cX2_becomeCyclic : ByteArray := prog_4_method_8_code
def yX2_becomeCyclic : MethodName := ⟨RX2, "becomeCyclic", "(I)V"⟩
abbrev cX2_becomeDihedral : ByteArray := prog_4_method_9_code
def yX2_becomeDihedral : MethodName := ⟨RX2, "becomeDihedral", "(I)V"⟩
abbrev cX2_becomeQuaternion : ByteArray := prog_4_method_10_code
def yX2_becomeQuaternion : MethodName := ⟨RX2, "becomeQuaternion", "()V"⟩
abbrev cX2_productOfUnits : ByteArray := prog_4_method_11_code
def yX2_productOfUnits : MethodName := ⟨RX2, "productOfUnits", "(II)I"⟩
abbrev cX2_becomeProduct : ByteArray := prog_4_method_12_code
def yX2_becomeProduct : MethodName := ⟨RX2, "becomeProduct", "(LCrossedModules$Group;LCrossedModules$Group;)V"⟩
abbrev cX2_findOpposites : ByteArray := prog_4_method_13_code
def yX2_findOpposites : MethodName := ⟨RX2, "findOpposites", "()V"⟩
abbrev cX2_period : ByteArray := prog_4_method_14_code
def yX2_period : MethodName := ⟨RX2, "period", "(I)I"⟩
abbrev cX2_middle : ByteArray := prog_4_method_15_code
def yX2_middle : MethodName := ⟨RX2, "middle", "()I"⟩
abbrev cX2_conjugatesOf : ByteArray := prog_4_method_16_code
def yX2_conjugatesOf : MethodName := ⟨RX2, "conjugatesOf", "(I)I"⟩
abbrev cX2_countConjugateClasses : ByteArray := prog_4_method_17_code
def yX2_countConjugateClasses : MethodName := ⟨RX2, "countConjugateClasses", "()I"⟩
abbrev cX2_closure : ByteArray := prog_4_method_18_code
def yX2_closure : MethodName := ⟨RX2, "closure", "(I)I"⟩
abbrev cX2_productsWithin : ByteArray := prog_4_method_19_code
def yX2_productsWithin : MethodName := ⟨RX2, "productsWithin", "(I)I"⟩
abbrev cX2_normalClosure : ByteArray := prog_4_method_20_code
def yX2_normalClosure : MethodName := ⟨RX2, "normalClosure", "(I)I"⟩
def RX3 : String := "CrossedModules$Names"
def TX3 : u_T := fun k => match k with
  | 0 => ("CrossedModules$Names", "words", "[J", true)
  | 1 => ("CrossedModules$Names", "lengths", "[I", true)
  | _ => ("CrossedModules$Names", "total", "I", false)
def tyX3 : Nat → FieldType := fun k => match k with
  | 0 => .array .long
  | 1 => .array .int
  | _ => .int
abbrev wsX30 : List Cond := u_ws RX3 TX3 3
theorem nmX3 : ∀ a, a < 3 → ∀ b, b < 3 → a ≠ b → (TX3 a).2.1 ≠ (TX3 b).2.1 := by decide +kernel
theorem tyX3_ok : ∀ k, k < 3 → parseFieldDescriptor (TX3 k).2.2.1 = some (tyX3 k) := by decide +kernel
abbrev cX3_init : ByteArray := prog_5_method_1_code
def yX3_init : MethodName := ⟨RX3, "<init>", "(I)V"⟩
abbrev cX3_isFull : ByteArray := prog_5_method_2_code
def yX3_isFull : MethodName := ⟨RX3, "isFull", "()Z"⟩
abbrev cX3_has : ByteArray := prog_5_method_3_code
def yX3_has : MethodName := ⟨RX3, "has", "(I)Z"⟩
abbrev cX3_lengthOf : ByteArray := prog_5_method_4_code
def yX3_lengthOf : MethodName := ⟨RX3, "lengthOf", "(I)I"⟩
abbrev cX3_letterOf : ByteArray := prog_5_method_5_code
def yX3_letterOf : MethodName := ⟨RX3, "letterOf", "(II)I"⟩
abbrev cX3_numberOf : ByteArray := prog_5_method_6_code
def yX3_numberOf : MethodName := ⟨RX3, "numberOf", "(J)I"⟩
abbrev cX3_noteNext : ByteArray := prog_5_method_7_code
def yX3_noteNext : MethodName := ⟨RX3, "noteNext", "(JI)V"⟩
def RX4 : String := "CrossedModules$Pair"
def TX4 : u_T := fun k => match k with
  | 0 => ("CrossedModules$Pair", "numbers", "[I", true)
  | 1 => ("CrossedModules$Pair", "leasts", "[I", true)
  | 2 => ("CrossedModules$Pair", "kernelOrders", "[I", true)
  | 3 => ("CrossedModules$Pair", "classOrders", "[I", true)
  | _ => ("CrossedModules$Pair", "classCount", "I", false)
def tyX4 : Nat → FieldType := fun k => match k with
  | 0 => .array .int
  | 1 => .array .int
  | 2 => .array .int
  | 3 => .array .int
  | _ => .int
abbrev wsX40 : List Cond := u_ws RX4 TX4 5
theorem nmX4 : ∀ a, a < 5 → ∀ b, b < 5 → a ≠ b → (TX4 a).2.1 ≠ (TX4 b).2.1 := by decide +kernel
theorem tyX4_ok : ∀ k, k < 5 → parseFieldDescriptor (TX4 k).2.2.1 = some (tyX4 k) := by decide +kernel
abbrev cX4_init : ByteArray := prog_6_method_1_code
def yX4_init : MethodName := ⟨RX4, "<init>", "()V"⟩
abbrev cX4_has : ByteArray := prog_6_method_2_code
def yX4_has : MethodName := ⟨RX4, "has", "(I)Z"⟩
abbrev cX4_classHolding : ByteArray := prog_6_method_3_code
def yX4_classHolding : MethodName := ⟨RX4, "classHolding", "(I)I"⟩
abbrev cX4_leastOf : ByteArray := prog_6_method_4_code
def yX4_leastOf : MethodName := ⟨RX4, "leastOf", "(I)I"⟩
abbrev cX4_product : ByteArray := prog_6_method_5_code
def yX4_product : MethodName := ⟨RX4, "product", "(LCrossedModules$Group;II)I"⟩
abbrev cX4_period : ByteArray := prog_6_method_6_code
def yX4_period : MethodName := ⟨RX4, "period", "(LCrossedModules$Group;I)I"⟩
abbrev cX4_sortClasses : ByteArray := prog_6_method_7_code
def yX4_sortClasses : MethodName := ⟨RX4, "sortClasses", "(LCrossedModules$Crossed;)V"⟩
abbrev cX4_countOrders : ByteArray := prog_6_method_8_code
def yX4_countOrders : MethodName := ⟨RX4, "countOrders", "(LCrossedModules$Crossed;)V"⟩
abbrev cX4_addOne : ByteArray := prog_6_method_9_code
def yX4_addOne : MethodName := ⟨RX4, "addOne", "([II)V"⟩
abbrev cX4_matches : ByteArray := prog_6_method_10_code
def yX4_matches : MethodName := ⟨RX4, "matches", "(LCrossedModules$Pair;)Z"⟩
def RX5 : String := "CrossedModules$Parser"
def TX5 : u_T := fun k => match k with
  | 0 => ("CrossedModules$Parser", "tokens", "LCrossedModules$Tokens;", true)
  | 1 => ("CrossedModules$Parser", "world", "LCrossedModules$World;", true)
  | 2 => ("CrossedModules$Parser", "error", "I", false)
  | _ => ("CrossedModules$Parser", "errorAt", "I", false)
def tyX5 : Nat → FieldType := fun k => match k with
  | 0 => .object "CrossedModules$Tokens"
  | 1 => .object "CrossedModules$World"
  | 2 => .int
  | _ => .int
abbrev wsX50 : List Cond := u_ws RX5 TX5 4
theorem nmX5 : ∀ a, a < 4 → ∀ b, b < 4 → a ≠ b → (TX5 a).2.1 ≠ (TX5 b).2.1 := by decide +kernel
theorem tyX5_ok : ∀ k, k < 4 → parseFieldDescriptor (TX5 k).2.2.1 = some (tyX5 k) := by decide +kernel
abbrev cX5_init : ByteArray := prog_7_method_1_code
def yX5_init : MethodName := ⟨RX5, "<init>", "(LCrossedModules$Tokens;LCrossedModules$World;)V"⟩
abbrev cX5_refuse : ByteArray := prog_7_method_2_code
def yX5_refuse : MethodName := ⟨RX5, "refuse", "(I)Z"⟩
abbrev cX5_readText : ByteArray := prog_7_method_3_code
def yX5_readText : MethodName := ⟨RX5, "readText", "()Z"⟩
abbrev cX5_readLine : ByteArray := prog_7_method_4_code
def yX5_readLine : MethodName := ⟨RX5, "readLine", "()Z"⟩
abbrev cX5_readGroup : ByteArray := prog_7_method_5_code
def yX5_readGroup : MethodName := ⟨RX5, "readGroup", "()Z"⟩
abbrev cX5_readCyclic : ByteArray := prog_7_method_6_code
def yX5_readCyclic : MethodName := ⟨RX5, "readCyclic", "(LCrossedModules$Group;)Z"⟩
abbrev cX5_readDihedral : ByteArray := prog_7_method_7_code
def yX5_readDihedral : MethodName := ⟨RX5, "readDihedral", "(LCrossedModules$Group;)Z"⟩
abbrev cX5_readQuaternion : ByteArray := prog_7_method_8_code
def yX5_readQuaternion : MethodName := ⟨RX5, "readQuaternion", "(LCrossedModules$Group;)Z"⟩
abbrev cX5_readProduct : ByteArray := prog_7_method_9_code
def yX5_readProduct : MethodName := ⟨RX5, "readProduct", "(LCrossedModules$Group;)Z"⟩
abbrev cX5_readModule : ByteArray := prog_7_method_10_code
def yX5_readModule : MethodName := ⟨RX5, "readModule", "()Z"⟩
abbrev cX5_readAct : ByteArray := prog_7_method_11_code
def yX5_readAct : MethodName := ⟨RX5, "readAct", "()Z"⟩
abbrev cX5_readArrow : ByteArray := prog_7_method_12_code
def yX5_readArrow : MethodName := ⟨RX5, "readArrow", "()Z"⟩
abbrev cX5_readNewName : ByteArray := prog_7_method_13_code
def yX5_readNewName : MethodName := ⟨RX5, "readNewName", "(LCrossedModules$Names;)Z"⟩
abbrev cX5_readElements : ByteArray := prog_7_method_14_code
def yX5_readElements : MethodName := ⟨RX5, "readElements", "([IILCrossedModules$Group;LCrossedModules$Group;)Z"⟩
abbrev cX5_isNumber : ByteArray := prog_7_method_15_code
def yX5_isNumber : MethodName := ⟨RX5, "isNumber", "(II)Z"⟩
abbrev cX5_isKnown : ByteArray := prog_7_method_16_code
def yX5_isKnown : MethodName := ⟨RX5, "isKnown", "(LCrossedModules$Names;)Z"⟩
abbrev cX5_groupTold : ByteArray := prog_7_method_17_code
def yX5_groupTold : MethodName := ⟨RX5, "groupTold", "()LCrossedModules$Group;"⟩
abbrev cX5_moduleTold : ByteArray := prog_7_method_18_code
def yX5_moduleTold : MethodName := ⟨RX5, "moduleTold", "()LCrossedModules$Crossed;"⟩
def RX6 : String := "CrossedModules$Tokens"
def TX6 : u_T := fun k => match k with
  | 0 => ("CrossedModules$Tokens", "bytes", "[B", true)
  | 1 => ("CrossedModules$Tokens", "length", "I", true)
  | 2 => ("CrossedModules$Tokens", "start", "I", false)
  | 3 => ("CrossedModules$Tokens", "stop", "I", false)
  | 4 => ("CrossedModules$Tokens", "kind", "I", false)
  | 5 => ("CrossedModules$Tokens", "word", "J", false)
  | _ => ("CrossedModules$Tokens", "value", "I", false)
def tyX6 : Nat → FieldType := fun k => match k with
  | 0 => .array .byte
  | 1 => .int
  | 2 => .int
  | 3 => .int
  | 4 => .int
  | 5 => .long
  | _ => .int
abbrev wsX60 : List Cond := u_ws RX6 TX6 7
theorem nmX6 : ∀ a, a < 7 → ∀ b, b < 7 → a ≠ b → (TX6 a).2.1 ≠ (TX6 b).2.1 := by decide +kernel
theorem tyX6_ok : ∀ k, k < 7 → parseFieldDescriptor (TX6 k).2.2.1 = some (tyX6 k) := by decide +kernel
abbrev cX6_init : ByteArray := prog_8_method_1_code
def yX6_init : MethodName := ⟨RX6, "<init>", "([BI)V"⟩
abbrev cX6_byteAt : ByteArray := prog_8_method_2_code
def yX6_byteAt : MethodName := ⟨RX6, "byteAt", "(I)I"⟩
abbrev cX6_advance : ByteArray := prog_8_method_3_code
def yX6_advance : MethodName := ⟨RX6, "advance", "()V"⟩
abbrev cX6_endOfRun : ByteArray := prog_8_method_4_code
def yX6_endOfRun : MethodName := ⟨RX6, "endOfRun", "(III)I"⟩
abbrev cX6_packed : ByteArray := prog_8_method_5_code
def yX6_packed : MethodName := ⟨RX6, "packed", "()J"⟩
abbrev cX6_spells : ByteArray := prog_8_method_6_code
def yX6_spells : MethodName := ⟨RX6, "spells", "(Ljava/lang/String;)Z"⟩
abbrev cX6_reckoned : ByteArray := prog_8_method_7_code
def yX6_reckoned : MethodName := ⟨RX6, "reckoned", "()I"⟩
def RX7 : String := "CrossedModules$World"
def TX7 : u_T := fun k => match k with
  | 0 => ("CrossedModules$World", "groupNames", "LCrossedModules$Names;", true)
  | 1 => ("CrossedModules$World", "moduleNames", "LCrossedModules$Names;", true)
  | 2 => ("CrossedModules$World", "arrowNames", "LCrossedModules$Names;", true)
  | 3 => ("CrossedModules$World", "groups", "[LCrossedModules$Group;", true)
  | 4 => ("CrossedModules$World", "modules", "[LCrossedModules$Crossed;", true)
  | 5 => ("CrossedModules$World", "arrows", "[LCrossedModules$Arrow;", true)
  | _ => ("CrossedModules$World", "accounts", "[I", true)
def tyX7 : Nat → FieldType := fun k => match k with
  | 0 => .object "CrossedModules$Names"
  | 1 => .object "CrossedModules$Names"
  | 2 => .object "CrossedModules$Names"
  | 3 => .array (.object "CrossedModules$Group")
  | 4 => .array (.object "CrossedModules$Crossed")
  | 5 => .array (.object "CrossedModules$Arrow")
  | _ => .array .int
abbrev wsX70 : List Cond := u_ws RX7 TX7 7
theorem nmX7 : ∀ a, a < 7 → ∀ b, b < 7 → a ≠ b → (TX7 a).2.1 ≠ (TX7 b).2.1 := by decide +kernel
theorem tyX7_ok : ∀ k, k < 7 → parseFieldDescriptor (TX7 k).2.2.1 = some (tyX7 k) := by decide +kernel
abbrev cX7_init : ByteArray := prog_9_method_1_code
def yX7_init : MethodName := ⟨RX7, "<init>", "()V"⟩
abbrev cX7_clear : ByteArray := prog_9_method_2_code
def yX7_clear : MethodName := ⟨RX7, "clear", "()V"⟩
abbrev cX7_namesOf : ByteArray := prog_9_method_3_code
def yX7_namesOf : MethodName := ⟨RX7, "namesOf", "(I)LCrossedModules$Names;"⟩
abbrev cX7_settle : ByteArray := prog_9_method_4_code
def yX7_settle : MethodName := ⟨RX7, "settle", "()V"⟩
abbrev cX7_addToAccount : ByteArray := prog_9_method_5_code
def yX7_addToAccount : MethodName := ⟨RX7, "addToAccount", "(I)V"⟩
abbrev cX7_judgeAgain : ByteArray := prog_9_method_6_code
def yX7_judgeAgain : MethodName := ⟨RX7, "judgeAgain", "(LCrossedModules$Crossed;)V"⟩
abbrev cX7_lawfulModules : ByteArray := prog_9_method_7_code
def yX7_lawfulModules : MethodName := ⟨RX7, "lawfulModules", "()I"⟩
abbrev cX7_firstLike : ByteArray := prog_9_method_8_code
def yX7_firstLike : MethodName := ⟨RX7, "firstLike", "(LCrossedModules$Crossed;)I"⟩
abbrev cX7_equivalenceSet : ByteArray := prog_9_method_9_code
def yX7_equivalenceSet : MethodName := ⟨RX7, "equivalenceSet", "()I"⟩
abbrev cX7_oneStepFrom : ByteArray := prog_9_method_10_code
def yX7_oneStepFrom : MethodName := ⟨RX7, "oneStepFrom", "(II)I"⟩
abbrev cX7_stepsBetween : ByteArray := prog_9_method_11_code
def yX7_stepsBetween : MethodName := ⟨RX7, "stepsBetween", "(III)I"⟩
abbrev cX7_reachOf : ByteArray := prog_9_method_12_code
def yX7_reachOf : MethodName := ⟨RX7, "reachOf", "(II)I"⟩
abbrev cX7_giveState : ByteArray := prog_9_method_13_code
def yX7_giveState : MethodName := ⟨RX7, "giveState", "([I)V"⟩
abbrev cX7_takeState : ByteArray := prog_9_method_14_code
def yX7_takeState : MethodName := ⟨RX7, "takeState", "([I)V"⟩
def RX8 : String := "CrossedModules"
def TX8 : u_T := fun k => match k with
  | 0 => ("CrossedModules", "buffer", "[B", true)
  | 1 => ("CrossedModules", "filled", "I", false)
  | 2 => ("CrossedModules", "lastError", "I", false)
  | 3 => ("CrossedModules", "lastErrorAt", "I", false)
  | 4 => ("CrossedModules", "loaded", "Z", false)
  | 5 => ("CrossedModules", "world", "LCrossedModules$World;", false)
  | 6 => ("CrossedModules", "spare", "LCrossedModules$World;", false)
  | 7 => ("CrossedModules", "undoStates", "[[I", true)
  | 8 => ("CrossedModules", "firstUndo", "I", false)
  | 9 => ("CrossedModules", "undoCount", "I", false)
  | 10 => ("CrossedModules", "slotStates", "[[I", true)
  | 11 => ("CrossedModules", "savedSlots", "I", false)
  | 12 => ("CrossedModules", "text", "[B", true)
  | _ => ("CrossedModules", "textLength", "I", false)
def tyX8 : Nat → FieldType := fun k => match k with
  | 0 => .array .byte
  | 1 => .int
  | 2 => .int
  | 3 => .int
  | 4 => .boolean
  | 5 => .object "CrossedModules$World"
  | 6 => .object "CrossedModules$World"
  | 7 => .array (.array .int)
  | 8 => .int
  | 9 => .int
  | 10 => .array (.array .int)
  | 11 => .int
  | 12 => .array .byte
  | _ => .int
abbrev wsX80 : List Cond := u_ws RX8 TX8 14
theorem nmX8 : ∀ a, a < 14 → ∀ b, b < 14 → a ≠ b → (TX8 a).2.1 ≠ (TX8 b).2.1 := by decide +kernel
theorem tyX8_ok : ∀ k, k < 14 → parseFieldDescriptor (TX8 k).2.2.1 = some (tyX8 k) := by decide +kernel
abbrev cX8_init : ByteArray := prog_1_method_1_code
def yX8_init : MethodName := ⟨RX8, "<init>", "()V"⟩
abbrev cX8_append : ByteArray := prog_1_method_2_code
def yX8_append : MethodName := ⟨RX8, "append", "(IIIII)I"⟩
abbrev cX8_load : ByteArray := prog_1_method_3_code
def yX8_load : MethodName := ⟨RX8, "load", "(I)I"⟩
abbrev cX8_parseError : ByteArray := prog_1_method_4_code
def yX8_parseError : MethodName := ⟨RX8, "parseError", "()I"⟩
abbrev cX8_errorPosition : ByteArray := prog_1_method_5_code
def yX8_errorPosition : MethodName := ⟨RX8, "errorPosition", "()I"⟩
abbrev cX8_buffered : ByteArray := prog_1_method_6_code
def yX8_buffered : MethodName := ⟨RX8, "buffered", "()I"⟩
abbrev cX8_count : ByteArray := prog_1_method_7_code
def yX8_count : MethodName := ⟨RX8, "count", "(I)I"⟩
abbrev cX8_letter : ByteArray := prog_1_method_8_code
def yX8_letter : MethodName := ⟨RX8, "letter", "(III)I"⟩
abbrev cX8_size : ByteArray := prog_1_method_9_code
def yX8_size : MethodName := ⟨RX8, "size", "(I)I"⟩
abbrev cX8_times : ByteArray := prog_1_method_10_code
def yX8_times : MethodName := ⟨RX8, "times", "(III)I"⟩
abbrev cX8_inverse : ByteArray := prog_1_method_11_code
def yX8_inverse : MethodName := ⟨RX8, "inverse", "(II)I"⟩
abbrev cX8_orderOf : ByteArray := prog_1_method_12_code
def yX8_orderOf : MethodName := ⟨RX8, "orderOf", "(II)I"⟩
abbrev cX8_centre : ByteArray := prog_1_method_13_code
def yX8_centre : MethodName := ⟨RX8, "centre", "(I)I"⟩
abbrev cX8_conjugacy : ByteArray := prog_1_method_14_code
def yX8_conjugacy : MethodName := ⟨RX8, "conjugacy", "(I)I"⟩
abbrev cX8_generated : ByteArray := prog_1_method_15_code
def yX8_generated : MethodName := ⟨RX8, "generated", "(II)I"⟩
abbrev cX8_normal : ByteArray := prog_1_method_16_code
def yX8_normal : MethodName := ⟨RX8, "normal", "(II)I"⟩
abbrev cX8_groupOf : ByteArray := prog_1_method_17_code
def yX8_groupOf : MethodName := ⟨RX8, "groupOf", "(IZ)I"⟩
abbrev cX8_boundary : ByteArray := prog_1_method_18_code
def yX8_boundary : MethodName := ⟨RX8, "boundary", "(II)I"⟩
abbrev cX8_act : ByteArray := prog_1_method_19_code
def yX8_act : MethodName := ⟨RX8, "act", "(III)I"⟩
abbrev cX8_why : ByteArray := prog_1_method_20_code
def yX8_why : MethodName := ⟨RX8, "why", "(I)I"⟩
abbrev cX8_lawful : ByteArray := prog_1_method_21_code
def yX8_lawful : MethodName := ⟨RX8, "lawful", "()I"⟩
abbrev cX8_kernel : ByteArray := prog_1_method_22_code
def yX8_kernel : MethodName := ⟨RX8, "kernel", "(I)I"⟩
abbrev cX8_image : ByteArray := prog_1_method_23_code
def yX8_image : MethodName := ⟨RX8, "image", "(I)I"⟩
abbrev cX8_isCentral : ByteArray := prog_1_method_24_code
def yX8_isCentral : MethodName := ⟨RX8, "isCentral", "(I)Z"⟩
abbrev cX8_fixed : ByteArray := prog_1_method_25_code
def yX8_fixed : MethodName := ⟨RX8, "fixed", "(II)I"⟩
abbrev cX8_orbit : ByteArray := prog_1_method_26_code
def yX8_orbit : MethodName := ⟨RX8, "orbit", "(II)I"⟩
abbrev cX8_classes : ByteArray := prog_1_method_27_code
def yX8_classes : MethodName := ⟨RX8, "classes", "(I)I"⟩
abbrev cX8_classOf : ByteArray := prog_1_method_28_code
def yX8_classOf : MethodName := ⟨RX8, "classOf", "(II)I"⟩
abbrev cX8_classTimes : ByteArray := prog_1_method_29_code
def yX8_classTimes : MethodName := ⟨RX8, "classTimes", "(III)I"⟩
abbrev cX8_classAct : ByteArray := prog_1_method_30_code
def yX8_classAct : MethodName := ⟨RX8, "classAct", "(III)I"⟩
abbrev cX8_profile : ByteArray := prog_1_method_31_code
def yX8_profile : MethodName := ⟨RX8, "profile", "(IZI)I"⟩
abbrev cX8_areAlike : ByteArray := prog_1_method_32_code
def yX8_areAlike : MethodName := ⟨RX8, "areAlike", "(II)Z"⟩
abbrev cX8_kinds : ByteArray := prog_1_method_33_code
def yX8_kinds : MethodName := ⟨RX8, "kinds", "()I"⟩
abbrev cX8_firstAlike : ByteArray := prog_1_method_34_code
def yX8_firstAlike : MethodName := ⟨RX8, "firstAlike", "(I)I"⟩
abbrev cX8_largeTimes : ByteArray := prog_1_method_35_code
def yX8_largeTimes : MethodName := ⟨RX8, "largeTimes", "(III)I"⟩
abbrev cX8_target : ByteArray := prog_1_method_36_code
def yX8_target : MethodName := ⟨RX8, "target", "(II)I"⟩
abbrev cX8_largeOrder : ByteArray := prog_1_method_37_code
def yX8_largeOrder : MethodName := ⟨RX8, "largeOrder", "(II)I"⟩
abbrev cX8_between : ByteArray := prog_1_method_38_code
def yX8_between : MethodName := ⟨RX8, "between", "(III)I"⟩
abbrev cX8_end : ByteArray := prog_1_method_39_code
def yX8_end : MethodName := ⟨RX8, "end", "(IZ)I"⟩
abbrev cX8_top : ByteArray := prog_1_method_40_code
def yX8_top : MethodName := ⟨RX8, "top", "(II)I"⟩
abbrev cX8_bottom : ByteArray := prog_1_method_41_code
def yX8_bottom : MethodName := ⟨RX8, "bottom", "(II)I"⟩
abbrev cX8_arrowWhy : ByteArray := prog_1_method_42_code
def yX8_arrowWhy : MethodName := ⟨RX8, "arrowWhy", "(I)I"⟩
abbrev cX8_isEquivalence : ByteArray := prog_1_method_43_code
def yX8_isEquivalence : MethodName := ⟨RX8, "isEquivalence", "(I)Z"⟩
abbrev cX8_equivalences : ByteArray := prog_1_method_44_code
def yX8_equivalences : MethodName := ⟨RX8, "equivalences", "()I"⟩
abbrev cX8_ladder : ByteArray := prog_1_method_45_code
def yX8_ladder : MethodName := ⟨RX8, "ladder", "(II)I"⟩
abbrev cX8_joined : ByteArray := prog_1_method_46_code
def yX8_joined : MethodName := ⟨RX8, "joined", "(I)I"⟩
abbrev cX8_through : ByteArray := prog_1_method_47_code
def yX8_through : MethodName := ⟨RX8, "through", "(III)I"⟩
abbrev cX8_account : ByteArray := prog_1_method_48_code
def yX8_account : MethodName := ⟨RX8, "account", "(I)I"⟩
abbrev cX8_writeModule : ByteArray := prog_1_method_49_code
def yX8_writeModule : MethodName := ⟨RX8, "writeModule", "(I)I"⟩
abbrev cX8_writeTable : ByteArray := prog_1_method_50_code
def yX8_writeTable : MethodName := ⟨RX8, "writeTable", "(I)I"⟩
abbrev cX8_textByte : ByteArray := prog_1_method_51_code
def yX8_textByte : MethodName := ⟨RX8, "textByte", "(I)I"⟩
abbrev cX8_setBoundary : ByteArray := prog_1_method_52_code
def yX8_setBoundary : MethodName := ⟨RX8, "setBoundary", "(III)I"⟩
abbrev cX8_setAct : ByteArray := prog_1_method_53_code
def yX8_setAct : MethodName := ⟨RX8, "setAct", "(IIII)I"⟩
abbrev cX8_rest : ByteArray := prog_1_method_54_code
def yX8_rest : MethodName := ⟨RX8, "rest", "(I)I"⟩
abbrev cX8_conjugate : ByteArray := prog_1_method_55_code
def yX8_conjugate : MethodName := ⟨RX8, "conjugate", "(I)I"⟩
abbrev cX8_setTop : ByteArray := prog_1_method_56_code
def yX8_setTop : MethodName := ⟨RX8, "setTop", "(III)I"⟩
abbrev cX8_setBottom : ByteArray := prog_1_method_57_code
def yX8_setBottom : MethodName := ⟨RX8, "setBottom", "(III)I"⟩
abbrev cX8_undo : ByteArray := prog_1_method_58_code
def yX8_undo : MethodName := ⟨RX8, "undo", "()I"⟩
abbrev cX8_undoable : ByteArray := prog_1_method_59_code
def yX8_undoable : MethodName := ⟨RX8, "undoable", "()I"⟩
abbrev cX8_save : ByteArray := prog_1_method_60_code
def yX8_save : MethodName := ⟨RX8, "save", "(I)I"⟩
abbrev cX8_restore : ByteArray := prog_1_method_61_code
def yX8_restore : MethodName := ⟨RX8, "restore", "(I)I"⟩
abbrev cX8_demandText : ByteArray := prog_1_method_62_code
def yX8_demandText : MethodName := ⟨RX8, "demandText", "()V"⟩
abbrev cX8_demandThere : ByteArray := prog_1_method_63_code
def yX8_demandThere : MethodName := ⟨RX8, "demandThere", "(Z)V"⟩
abbrev cX8_demandFit : ByteArray := prog_1_method_64_code
def yX8_demandFit : MethodName := ⟨RX8, "demandFit", "(Z)V"⟩
abbrev cX8_groupAt : ByteArray := prog_1_method_65_code
def yX8_groupAt : MethodName := ⟨RX8, "groupAt", "(I)LCrossedModules$Group;"⟩
abbrev cX8_moduleAt : ByteArray := prog_1_method_66_code
def yX8_moduleAt : MethodName := ⟨RX8, "moduleAt", "(I)LCrossedModules$Crossed;"⟩
abbrev cX8_lawfulModuleAt : ByteArray := prog_1_method_67_code
def yX8_lawfulModuleAt : MethodName := ⟨RX8, "lawfulModuleAt", "(I)LCrossedModules$Crossed;"⟩
abbrev cX8_arrowAt : ByteArray := prog_1_method_68_code
def yX8_arrowAt : MethodName := ⟨RX8, "arrowAt", "(I)LCrossedModules$Arrow;"⟩
abbrev cX8_appendWord : ByteArray := prog_1_method_69_code
def yX8_appendWord : MethodName := ⟨RX8, "appendWord", "(I)V"⟩
abbrev cX8_write : ByteArray := prog_1_method_70_code
def yX8_write : MethodName := ⟨RX8, "write", "(I)V"⟩
abbrev cX8_beginChange : ByteArray := prog_1_method_71_code
def yX8_beginChange : MethodName := ⟨RX8, "beginChange", "()V"⟩
abbrev cX8_undoPlace : ByteArray := prog_1_method_72_code
def yX8_undoPlace : MethodName := ⟨RX8, "undoPlace", "(I)I"⟩
abbrev cX8_forgetChanges : ByteArray := prog_1_method_73_code
def yX8_forgetChanges : MethodName := ⟨RX8, "forgetChanges", "()V"⟩
abbrev cX8_at : ByteArray := prog_1_method_74_code
def yX8_at : MethodName := ⟨RX8, "at", "([II)I"⟩
abbrev cX8_put : ByteArray := prog_1_method_75_code
def yX8_put : MethodName := ⟨RX8, "put", "([III)V"⟩
abbrev cX8_isIn : ByteArray := prog_1_method_76_code
def yX8_isIn : MethodName := ⟨RX8, "isIn", "(II)Z"⟩
abbrev cX8_isBetween : ByteArray := prog_1_method_77_code
def yX8_isBetween : MethodName := ⟨RX8, "isBetween", "(III)Z"⟩
def RX9 : String := "CrossedModulesModel"
def TX9 : u_T := fun k => match k with
  | 0 => ("CrossedModulesModel", "thrown", "I", false)
  | 1 => ("CrossedModulesModel", "isLoaded", "Z", false)
  | 2 => ("CrossedModulesModel", "groups", "I", false)
  | 3 => ("CrossedModulesModel", "modules", "I", false)
  | 4 => ("CrossedModulesModel", "arrows", "I", false)
  | 5 => ("CrossedModulesModel", "size", "[I", true)
  | 6 => ("CrossedModulesModel", "table", "[I", true)
  | 7 => ("CrossedModulesModel", "upper", "[I", true)
  | 8 => ("CrossedModulesModel", "lower", "[I", true)
  | 9 => ("CrossedModulesModel", "first", "[I", true)
  | 10 => ("CrossedModulesModel", "second", "[I", true)
  | 11 => ("CrossedModulesModel", "names", "[I", true)
  | 12 => ("CrossedModulesModel", "s", "[I", true)
  | 13 => ("CrossedModulesModel", "stores", "[I", true)
  | 14 => ("CrossedModulesModel", "changes", "I", false)
  | 15 => ("CrossedModulesModel", "isKept", "[Z", true)
  | 16 => ("CrossedModulesModel", "buffer", "[I", true)
  | 17 => ("CrossedModulesModel", "buffered", "I", false)
  | 18 => ("CrossedModulesModel", "parseError", "I", false)
  | 19 => ("CrossedModulesModel", "errorPosition", "I", false)
  | 20 => ("CrossedModulesModel", "length", "I", false)
  | 21 => ("CrossedModulesModel", "next", "I", false)
  | 22 => ("CrossedModulesModel", "from", "I", false)
  | 23 => ("CrossedModulesModel", "sort", "I", false)
  | 24 => ("CrossedModulesModel", "number", "I", false)
  | 25 => ("CrossedModulesModel", "wrong", "I", false)
  | 26 => ("CrossedModulesModel", "wrongAt", "I", false)
  | 27 => ("CrossedModulesModel", "readS", "[I", true)
  | 28 => ("CrossedModulesModel", "readSize", "[I", true)
  | 29 => ("CrossedModulesModel", "readTable", "[I", true)
  | 30 => ("CrossedModulesModel", "readUpper", "[I", true)
  | 31 => ("CrossedModulesModel", "readLower", "[I", true)
  | 32 => ("CrossedModulesModel", "readFirst", "[I", true)
  | 33 => ("CrossedModulesModel", "readSecond", "[I", true)
  | 34 => ("CrossedModulesModel", "readNames", "[I", true)
  | 35 => ("CrossedModulesModel", "readGroups", "I", false)
  | 36 => ("CrossedModulesModel", "readModules", "I", false)
  | 37 => ("CrossedModulesModel", "readArrows", "I", false)
  | 38 => ("CrossedModulesModel", "toldActs", "[I", true)
  | 39 => ("CrossedModulesModel", "least", "[I", true)
  | 40 => ("CrossedModulesModel", "classIn", "[I", true)
  | 41 => ("CrossedModulesModel", "classHere", "[I", true)
  | 42 => ("CrossedModulesModel", "text", "[I", true)
  | 43 => ("CrossedModulesModel", "textLong", "I", false)
  | _ => ("CrossedModulesModel", "was", "Z", false)
def tyX9 : Nat → FieldType := fun k => match k with
  | 0 => .int
  | 1 => .boolean
  | 2 => .int
  | 3 => .int
  | 4 => .int
  | 5 => .array .int
  | 6 => .array .int
  | 7 => .array .int
  | 8 => .array .int
  | 9 => .array .int
  | 10 => .array .int
  | 11 => .array .int
  | 12 => .array .int
  | 13 => .array .int
  | 14 => .int
  | 15 => .array .boolean
  | 16 => .array .int
  | 17 => .int
  | 18 => .int
  | 19 => .int
  | 20 => .int
  | 21 => .int
  | 22 => .int
  | 23 => .int
  | 24 => .int
  | 25 => .int
  | 26 => .int
  | 27 => .array .int
  | 28 => .array .int
  | 29 => .array .int
  | 30 => .array .int
  | 31 => .array .int
  | 32 => .array .int
  | 33 => .array .int
  | 34 => .array .int
  | 35 => .int
  | 36 => .int
  | 37 => .int
  | 38 => .array .int
  | 39 => .array .int
  | 40 => .array .int
  | 41 => .array .int
  | 42 => .array .int
  | 43 => .int
  | _ => .boolean
abbrev wsX90 : List Cond := u_ws RX9 TX9 45
theorem nmX9 : ∀ a, a < 45 → ∀ b, b < 45 → a ≠ b → (TX9 a).2.1 ≠ (TX9 b).2.1 := by decide +kernel
theorem tyX9_ok : ∀ k, k < 45 → parseFieldDescriptor (TX9 k).2.2.1 = some (tyX9 k) := by decide +kernel
abbrev cX9_init : ByteArray := prog_11_method_1_code
def yX9_init : MethodName := ⟨RX9, "<init>", "()V"⟩
abbrev cX9_thrown : ByteArray := prog_11_method_2_code
def yX9_thrown : MethodName := ⟨RX9, "thrown", "()I"⟩
abbrev cX9_in : ByteArray := prog_11_method_3_code
def yX9_in : MethodName := ⟨RX9, "in", "(III)Z"⟩
abbrev cX9_has : ByteArray := prog_11_method_4_code
def yX9_has : MethodName := ⟨RX9, "has", "(II)Z"⟩
abbrev cX9_flag : ByteArray := prog_11_method_5_code
def yX9_flag : MethodName := ⟨RX9, "flag", "(Z)I"⟩
abbrev cX9_ones : ByteArray := prog_11_method_6_code
def yX9_ones : MethodName := ⟨RX9, "ones", "(I)I"⟩
abbrev cX9_refuse : ByteArray := prog_11_method_7_code
def yX9_refuse : MethodName := ⟨RX9, "refuse", "(ZI)Z"⟩
abbrev cX9_notLoaded : ByteArray := prog_11_method_8_code
def yX9_notLoaded : MethodName := ⟨RX9, "notLoaded", "()Z"⟩
abbrev cX9_append : ByteArray := prog_11_method_9_code
def yX9_append : MethodName := ⟨RX9, "append", "(IIIII)I"⟩
abbrev cX9_buffered : ByteArray := prog_11_method_10_code
def yX9_buffered : MethodName := ⟨RX9, "buffered", "()I"⟩
abbrev cX9_parseError : ByteArray := prog_11_method_11_code
def yX9_parseError : MethodName := ⟨RX9, "parseError", "()I"⟩
abbrev cX9_errorPosition : ByteArray := prog_11_method_12_code
def yX9_errorPosition : MethodName := ⟨RX9, "errorPosition", "()I"⟩
abbrev cX9_seen : ByteArray := prog_11_method_13_code
def yX9_seen : MethodName := ⟨RX9, "seen", "(I)I"⟩
abbrev cX9_isLetter : ByteArray := prog_11_method_14_code
def yX9_isLetter : MethodName := ⟨RX9, "isLetter", "(I)Z"⟩
abbrev cX9_isDigit : ByteArray := prog_11_method_15_code
def yX9_isDigit : MethodName := ⟨RX9, "isDigit", "(I)Z"⟩
abbrev cX9_token : ByteArray := prog_11_method_16_code
def yX9_token : MethodName := ⟨RX9, "token", "()V"⟩
abbrev cX9_fails : ByteArray := prog_11_method_17_code
def yX9_fails : MethodName := ⟨RX9, "fails", "(I)V"⟩
abbrev cX9_failsIf : ByteArray := prog_11_method_18_code
def yX9_failsIf : MethodName := ⟨RX9, "failsIf", "(ZI)V"⟩
abbrev cX9_goesOn : ByteArray := prog_11_method_19_code
def yX9_goesOn : MethodName := ⟨RX9, "goesOn", "()V"⟩
abbrev cX9_isWord : ByteArray := prog_11_method_20_code
def yX9_isWord : MethodName := ⟨RX9, "isWord", "(Ljava/lang/String;)Z"⟩
abbrev cX9_takes : ByteArray := prog_11_method_21_code
def yX9_takes : MethodName := ⟨RX9, "takes", "(II)I"⟩
abbrev cX9_named : ByteArray := prog_11_method_22_code
def yX9_named : MethodName := ⟨RX9, "named", "(II)I"⟩
abbrev cX9_newName : ByteArray := prog_11_method_23_code
def yX9_newName : MethodName := ⟨RX9, "newName", "(II)V"⟩
abbrev cX9_oldName : ByteArray := prog_11_method_24_code
def yX9_oldName : MethodName := ⟨RX9, "oldName", "(II)I"⟩
abbrev cX9_takesName : ByteArray := prog_11_method_25_code
def yX9_takesName : MethodName := ⟨RX9, "takesName", "(II)I"⟩
abbrev cX9_groupLine : ByteArray := prog_11_method_26_code
def yX9_groupLine : MethodName := ⟨RX9, "groupLine", "()V"⟩
abbrev cX9_lays : ByteArray := prog_11_method_27_code
def yX9_lays : MethodName := ⟨RX9, "lays", "(III)V"⟩
abbrev cX9_laysCyclic : ByteArray := prog_11_method_28_code
def yX9_laysCyclic : MethodName := ⟨RX9, "laysCyclic", "(I)V"⟩
abbrev cX9_laysDihedral : ByteArray := prog_11_method_29_code
def yX9_laysDihedral : MethodName := ⟨RX9, "laysDihedral", "(I)V"⟩
abbrev cX9_ofUnits : ByteArray := prog_11_method_30_code
def yX9_ofUnits : MethodName := ⟨RX9, "ofUnits", "(II)I"⟩
abbrev cX9_laysQuaternion : ByteArray := prog_11_method_31_code
def yX9_laysQuaternion : MethodName := ⟨RX9, "laysQuaternion", "()V"⟩
abbrev cX9_laysProduct : ByteArray := prog_11_method_32_code
def yX9_laysProduct : MethodName := ⟨RX9, "laysProduct", "(II)V"⟩
abbrev cX9_moduleLine : ByteArray := prog_11_method_33_code
def yX9_moduleLine : MethodName := ⟨RX9, "moduleLine", "()V"⟩
abbrev cX9_actLine : ByteArray := prog_11_method_34_code
def yX9_actLine : MethodName := ⟨RX9, "actLine", "()V"⟩
abbrev cX9_arrowLine : ByteArray := prog_11_method_35_code
def yX9_arrowLine : MethodName := ⟨RX9, "arrowLine", "()V"⟩
abbrev cX9_line : ByteArray := prog_11_method_36_code
def yX9_line : MethodName := ⟨RX9, "line", "()V"⟩
abbrev cX9_reads : ByteArray := prog_11_method_37_code
def yX9_reads : MethodName := ⟨RX9, "reads", "(I)V"⟩
abbrev cX9_copies : ByteArray := prog_11_method_38_code
def yX9_copies : MethodName := ⟨RX9, "copies", "([I[I)V"⟩
abbrev cX9_load : ByteArray := prog_11_method_39_code
def yX9_load : MethodName := ⟨RX9, "load", "(I)I"⟩
abbrev cX9_count : ByteArray := prog_11_method_40_code
def yX9_count : MethodName := ⟨RX9, "count", "(I)I"⟩
abbrev cX9_nameLong : ByteArray := prog_11_method_41_code
def yX9_nameLong : MethodName := ⟨RX9, "nameLong", "(I)I"⟩
abbrev cX9_letter : ByteArray := prog_11_method_42_code
def yX9_letter : MethodName := ⟨RX9, "letter", "(III)I"⟩
abbrev cX9_noGroup : ByteArray := prog_11_method_43_code
def yX9_noGroup : MethodName := ⟨RX9, "noGroup", "(I)Z"⟩
abbrev cX9_noElement : ByteArray := prog_11_method_44_code
def yX9_noElement : MethodName := ⟨RX9, "noElement", "(II)Z"⟩
abbrev cX9_size : ByteArray := prog_11_method_45_code
def yX9_size : MethodName := ⟨RX9, "size", "(I)I"⟩
abbrev cX9_of : ByteArray := prog_11_method_46_code
def yX9_of : MethodName := ⟨RX9, "of", "(III)I"⟩
abbrev cX9_times : ByteArray := prog_11_method_47_code
def yX9_times : MethodName := ⟨RX9, "times", "(III)I"⟩
abbrev cX9_inverseOf : ByteArray := prog_11_method_48_code
def yX9_inverseOf : MethodName := ⟨RX9, "inverseOf", "(II)I"⟩
abbrev cX9_inverse : ByteArray := prog_11_method_49_code
def yX9_inverse : MethodName := ⟨RX9, "inverse", "(II)I"⟩
abbrev cX9_orderIn : ByteArray := prog_11_method_50_code
def yX9_orderIn : MethodName := ⟨RX9, "orderIn", "(II)I"⟩
abbrev cX9_orderOf : ByteArray := prog_11_method_51_code
def yX9_orderOf : MethodName := ⟨RX9, "orderOf", "(II)I"⟩
abbrev cX9_centreOf : ByteArray := prog_11_method_52_code
def yX9_centreOf : MethodName := ⟨RX9, "centreOf", "(I)I"⟩
abbrev cX9_centre : ByteArray := prog_11_method_53_code
def yX9_centre : MethodName := ⟨RX9, "centre", "(I)I"⟩
abbrev cX9_conjugateOf : ByteArray := prog_11_method_54_code
def yX9_conjugateOf : MethodName := ⟨RX9, "conjugateOf", "(III)I"⟩
abbrev cX9_conjugacy : ByteArray := prog_11_method_55_code
def yX9_conjugacy : MethodName := ⟨RX9, "conjugacy", "(I)I"⟩
abbrev cX9_made : ByteArray := prog_11_method_56_code
def yX9_made : MethodName := ⟨RX9, "made", "(IIZ)I"⟩
abbrev cX9_noSet : ByteArray := prog_11_method_57_code
def yX9_noSet : MethodName := ⟨RX9, "noSet", "(II)Z"⟩
abbrev cX9_generated : ByteArray := prog_11_method_58_code
def yX9_generated : MethodName := ⟨RX9, "generated", "(II)I"⟩
abbrev cX9_normal : ByteArray := prog_11_method_59_code
def yX9_normal : MethodName := ⟨RX9, "normal", "(II)I"⟩
abbrev cX9_noModule : ByteArray := prog_11_method_60_code
def yX9_noModule : MethodName := ⟨RX9, "noModule", "(I)Z"⟩
abbrev cX9_noUpper : ByteArray := prog_11_method_61_code
def yX9_noUpper : MethodName := ⟨RX9, "noUpper", "(II)Z"⟩
abbrev cX9_noLower : ByteArray := prog_11_method_62_code
def yX9_noLower : MethodName := ⟨RX9, "noLower", "(II)Z"⟩
abbrev cX9_boundaryOf : ByteArray := prog_11_method_63_code
def yX9_boundaryOf : MethodName := ⟨RX9, "boundaryOf", "(II)I"⟩
abbrev cX9_on : ByteArray := prog_11_method_64_code
def yX9_on : MethodName := ⟨RX9, "on", "(III)I"⟩
abbrev cX9_up : ByteArray := prog_11_method_65_code
def yX9_up : MethodName := ⟨RX9, "up", "(III)I"⟩
abbrev cX9_down : ByteArray := prog_11_method_66_code
def yX9_down : MethodName := ⟨RX9, "down", "(III)I"⟩
abbrev cX9_uppers : ByteArray := prog_11_method_67_code
def yX9_uppers : MethodName := ⟨RX9, "uppers", "(I)I"⟩
abbrev cX9_lowers : ByteArray := prog_11_method_68_code
def yX9_lowers : MethodName := ⟨RX9, "lowers", "(I)I"⟩
abbrev cX9_groupOf : ByteArray := prog_11_method_69_code
def yX9_groupOf : MethodName := ⟨RX9, "groupOf", "(IZ)I"⟩
abbrev cX9_boundary : ByteArray := prog_11_method_70_code
def yX9_boundary : MethodName := ⟨RX9, "boundary", "(II)I"⟩
abbrev cX9_act : ByteArray := prog_11_method_71_code
def yX9_act : MethodName := ⟨RX9, "act", "(III)I"⟩
abbrev cX9_breaksProducts : ByteArray := prog_11_method_72_code
def yX9_breaksProducts : MethodName := ⟨RX9, "breaksProducts", "(I)Z"⟩
abbrev cX9_breaksMaps : ByteArray := prog_11_method_73_code
def yX9_breaksMaps : MethodName := ⟨RX9, "breaksMaps", "(I)Z"⟩
abbrev cX9_breaksActions : ByteArray := prog_11_method_74_code
def yX9_breaksActions : MethodName := ⟨RX9, "breaksActions", "(I)Z"⟩
abbrev cX9_breaksBoundaries : ByteArray := prog_11_method_75_code
def yX9_breaksBoundaries : MethodName := ⟨RX9, "breaksBoundaries", "(I)Z"⟩
abbrev cX9_breaksConjugates : ByteArray := prog_11_method_76_code
def yX9_breaksConjugates : MethodName := ⟨RX9, "breaksConjugates", "(I)Z"⟩
abbrev cX9_whyOf : ByteArray := prog_11_method_77_code
def yX9_whyOf : MethodName := ⟨RX9, "whyOf", "(I)I"⟩
abbrev cX9_why : ByteArray := prog_11_method_78_code
def yX9_why : MethodName := ⟨RX9, "why", "(I)I"⟩
abbrev cX9_lawfulNow : ByteArray := prog_11_method_79_code
def yX9_lawfulNow : MethodName := ⟨RX9, "lawfulNow", "()I"⟩
abbrev cX9_lawful : ByteArray := prog_11_method_80_code
def yX9_lawful : MethodName := ⟨RX9, "lawful", "()I"⟩
abbrev cX9_kernelOf : ByteArray := prog_11_method_81_code
def yX9_kernelOf : MethodName := ⟨RX9, "kernelOf", "(I)I"⟩
abbrev cX9_imageOf : ByteArray := prog_11_method_82_code
def yX9_imageOf : MethodName := ⟨RX9, "imageOf", "(I)I"⟩
abbrev cX9_kernel : ByteArray := prog_11_method_83_code
def yX9_kernel : MethodName := ⟨RX9, "kernel", "(I)I"⟩
abbrev cX9_image : ByteArray := prog_11_method_84_code
def yX9_image : MethodName := ⟨RX9, "image", "(I)I"⟩
abbrev cX9_isCentral : ByteArray := prog_11_method_85_code
def yX9_isCentral : MethodName := ⟨RX9, "isCentral", "(I)Z"⟩
abbrev cX9_fixed : ByteArray := prog_11_method_86_code
def yX9_fixed : MethodName := ⟨RX9, "fixed", "(II)I"⟩
abbrev cX9_orbit : ByteArray := prog_11_method_87_code
def yX9_orbit : MethodName := ⟨RX9, "orbit", "(II)I"⟩
abbrev cX9_laysClasses : ByteArray := prog_11_method_88_code
def yX9_laysClasses : MethodName := ⟨RX9, "laysClasses", "(I)I"⟩
abbrev cX9_notLawful : ByteArray := prog_11_method_89_code
def yX9_notLawful : MethodName := ⟨RX9, "notLawful", "(I)Z"⟩
abbrev cX9_classes : ByteArray := prog_11_method_90_code
def yX9_classes : MethodName := ⟨RX9, "classes", "(I)I"⟩
abbrev cX9_classOf : ByteArray := prog_11_method_91_code
def yX9_classOf : MethodName := ⟨RX9, "classOf", "(II)I"⟩
abbrev cX9_classProduct : ByteArray := prog_11_method_92_code
def yX9_classProduct : MethodName := ⟨RX9, "classProduct", "(III)I"⟩
abbrev cX9_classTimes : ByteArray := prog_11_method_93_code
def yX9_classTimes : MethodName := ⟨RX9, "classTimes", "(III)I"⟩
abbrev cX9_classAct : ByteArray := prog_11_method_94_code
def yX9_classAct : MethodName := ⟨RX9, "classAct", "(III)I"⟩
abbrev cX9_profileOf : ByteArray := prog_11_method_95_code
def yX9_profileOf : MethodName := ⟨RX9, "profileOf", "(IZI)I"⟩
abbrev cX9_profile : ByteArray := prog_11_method_96_code
def yX9_profile : MethodName := ⟨RX9, "profile", "(IZI)I"⟩
abbrev cX9_alike : ByteArray := prog_11_method_97_code
def yX9_alike : MethodName := ⟨RX9, "alike", "(II)Z"⟩
abbrev cX9_areAlike : ByteArray := prog_11_method_98_code
def yX9_areAlike : MethodName := ⟨RX9, "areAlike", "(II)Z"⟩
abbrev cX9_firstLike : ByteArray := prog_11_method_99_code
def yX9_firstLike : MethodName := ⟨RX9, "firstLike", "(I)I"⟩
abbrev cX9_kinds : ByteArray := prog_11_method_100_code
def yX9_kinds : MethodName := ⟨RX9, "kinds", "()I"⟩
abbrev cX9_firstAlike : ByteArray := prog_11_method_101_code
def yX9_firstAlike : MethodName := ⟨RX9, "firstAlike", "(I)I"⟩
abbrev cX9_noLarge : ByteArray := prog_11_method_102_code
def yX9_noLarge : MethodName := ⟨RX9, "noLarge", "(II)Z"⟩
abbrev cX9_large : ByteArray := prog_11_method_103_code
def yX9_large : MethodName := ⟨RX9, "large", "(III)I"⟩
abbrev cX9_largeTimes : ByteArray := prog_11_method_104_code
def yX9_largeTimes : MethodName := ⟨RX9, "largeTimes", "(III)I"⟩
abbrev cX9_targetOf : ByteArray := prog_11_method_105_code
def yX9_targetOf : MethodName := ⟨RX9, "targetOf", "(II)I"⟩
abbrev cX9_target : ByteArray := prog_11_method_106_code
def yX9_target : MethodName := ⟨RX9, "target", "(II)I"⟩
abbrev cX9_largeOrder : ByteArray := prog_11_method_107_code
def yX9_largeOrder : MethodName := ⟨RX9, "largeOrder", "(II)I"⟩
abbrev cX9_between : ByteArray := prog_11_method_108_code
def yX9_between : MethodName := ⟨RX9, "between", "(III)I"⟩
abbrev cX9_noArrow : ByteArray := prog_11_method_109_code
def yX9_noArrow : MethodName := ⟨RX9, "noArrow", "(I)Z"⟩
abbrev cX9_topOf : ByteArray := prog_11_method_110_code
def yX9_topOf : MethodName := ⟨RX9, "topOf", "(II)I"⟩
abbrev cX9_bottomOf : ByteArray := prog_11_method_111_code
def yX9_bottomOf : MethodName := ⟨RX9, "bottomOf", "(II)I"⟩
abbrev cX9_end : ByteArray := prog_11_method_112_code
def yX9_end : MethodName := ⟨RX9, "end", "(IZ)I"⟩
abbrev cX9_noTop : ByteArray := prog_11_method_113_code
def yX9_noTop : MethodName := ⟨RX9, "noTop", "(II)Z"⟩
abbrev cX9_noBottom : ByteArray := prog_11_method_114_code
def yX9_noBottom : MethodName := ⟨RX9, "noBottom", "(II)Z"⟩
abbrev cX9_top : ByteArray := prog_11_method_115_code
def yX9_top : MethodName := ⟨RX9, "top", "(II)I"⟩
abbrev cX9_bottom : ByteArray := prog_11_method_116_code
def yX9_bottom : MethodName := ⟨RX9, "bottom", "(II)I"⟩
abbrev cX9_breaksTops : ByteArray := prog_11_method_117_code
def yX9_breaksTops : MethodName := ⟨RX9, "breaksTops", "(I)Z"⟩
abbrev cX9_breaksBottoms : ByteArray := prog_11_method_118_code
def yX9_breaksBottoms : MethodName := ⟨RX9, "breaksBottoms", "(I)Z"⟩
abbrev cX9_breaksSquare : ByteArray := prog_11_method_119_code
def yX9_breaksSquare : MethodName := ⟨RX9, "breaksSquare", "(I)Z"⟩
abbrev cX9_breaksOn : ByteArray := prog_11_method_120_code
def yX9_breaksOn : MethodName := ⟨RX9, "breaksOn", "(I)Z"⟩
abbrev cX9_whyArrow : ByteArray := prog_11_method_121_code
def yX9_whyArrow : MethodName := ⟨RX9, "whyArrow", "(I)I"⟩
abbrev cX9_arrowWhy : ByteArray := prog_11_method_122_code
def yX9_arrowWhy : MethodName := ⟨RX9, "arrowWhy", "(I)I"⟩
abbrev cX9_isEqual : ByteArray := prog_11_method_123_code
def yX9_isEqual : MethodName := ⟨RX9, "isEqual", "(I)Z"⟩
abbrev cX9_isEquivalence : ByteArray := prog_11_method_124_code
def yX9_isEquivalence : MethodName := ⟨RX9, "isEquivalence", "(I)Z"⟩
abbrev cX9_allEqual : ByteArray := prog_11_method_125_code
def yX9_allEqual : MethodName := ⟨RX9, "allEqual", "()I"⟩
abbrev cX9_equivalences : ByteArray := prog_11_method_126_code
def yX9_equivalences : MethodName := ⟨RX9, "equivalences", "()I"⟩
abbrev cX9_onward : ByteArray := prog_11_method_127_code
def yX9_onward : MethodName := ⟨RX9, "onward", "(II)I"⟩
abbrev cX9_ladder : ByteArray := prog_11_method_128_code
def yX9_ladder : MethodName := ⟨RX9, "ladder", "(II)I"⟩
abbrev cX9_joined : ByteArray := prog_11_method_129_code
def yX9_joined : MethodName := ⟨RX9, "joined", "(I)I"⟩
abbrev cX9_through : ByteArray := prog_11_method_130_code
def yX9_through : MethodName := ⟨RX9, "through", "(III)I"⟩
abbrev cX9_account : ByteArray := prog_11_method_131_code
def yX9_account : MethodName := ⟨RX9, "account", "(I)I"⟩
abbrev cX9_says : ByteArray := prog_11_method_132_code
def yX9_says : MethodName := ⟨RX9, "says", "(I)V"⟩
abbrev cX9_writeModule : ByteArray := prog_11_method_133_code
def yX9_writeModule : MethodName := ⟨RX9, "writeModule", "(I)I"⟩
abbrev cX9_writeTable : ByteArray := prog_11_method_134_code
def yX9_writeTable : MethodName := ⟨RX9, "writeTable", "(I)I"⟩
abbrev cX9_textByte : ByteArray := prog_11_method_135_code
def yX9_textByte : MethodName := ⟨RX9, "textByte", "(I)I"⟩
abbrev cX9_keeps : ByteArray := prog_11_method_136_code
def yX9_keeps : MethodName := ⟨RX9, "keeps", "(I)V"⟩
abbrev cX9_fetches : ByteArray := prog_11_method_137_code
def yX9_fetches : MethodName := ⟨RX9, "fetches", "(I)V"⟩
abbrev cX9_begins : ByteArray := prog_11_method_138_code
def yX9_begins : MethodName := ⟨RX9, "begins", "()V"⟩
abbrev cX9_touches : ByteArray := prog_11_method_139_code
def yX9_touches : MethodName := ⟨RX9, "touches", "(I)V"⟩
abbrev cX9_ends : ByteArray := prog_11_method_140_code
def yX9_ends : MethodName := ⟨RX9, "ends", "(I)V"⟩
abbrev cX9_setBoundary : ByteArray := prog_11_method_141_code
def yX9_setBoundary : MethodName := ⟨RX9, "setBoundary", "(III)I"⟩
abbrev cX9_setAct : ByteArray := prog_11_method_142_code
def yX9_setAct : MethodName := ⟨RX9, "setAct", "(IIII)I"⟩
abbrev cX9_acts : ByteArray := prog_11_method_143_code
def yX9_acts : MethodName := ⟨RX9, "acts", "(IZ)I"⟩
abbrev cX9_rest : ByteArray := prog_11_method_144_code
def yX9_rest : MethodName := ⟨RX9, "rest", "(I)I"⟩
abbrev cX9_conjugate : ByteArray := prog_11_method_145_code
def yX9_conjugate : MethodName := ⟨RX9, "conjugate", "(I)I"⟩
abbrev cX9_setTop : ByteArray := prog_11_method_146_code
def yX9_setTop : MethodName := ⟨RX9, "setTop", "(III)I"⟩
abbrev cX9_setBottom : ByteArray := prog_11_method_147_code
def yX9_setBottom : MethodName := ⟨RX9, "setBottom", "(III)I"⟩
abbrev cX9_undo : ByteArray := prog_11_method_148_code
def yX9_undo : MethodName := ⟨RX9, "undo", "()I"⟩
abbrev cX9_undoable : ByteArray := prog_11_method_149_code
def yX9_undoable : MethodName := ⟨RX9, "undoable", "()I"⟩
abbrev cX9_save : ByteArray := prog_11_method_150_code
def yX9_save : MethodName := ⟨RX9, "save", "(I)I"⟩
abbrev cX9_restore : ByteArray := prog_11_method_151_code
def yX9_restore : MethodName := ⟨RX9, "restore", "(I)I"⟩
def RJx145de : String := "java/io/Serializable"
def TJx145de : u_T := fun k => match k with
  | _ => ("", "", "", false)
def tyJx145de : Nat → FieldType := fun k => match k with
  | _ => .int
abbrev wsJx145de0 : List Cond := u_ws RJx145de TJx145de 0
theorem nmJx145de : ∀ a, a < 0 → ∀ b, b < 0 → a ≠ b → (TJx145de a).2.1 ≠ (TJx145de b).2.1 := by decide +kernel
theorem tyJx145de_ok : ∀ k, k < 0 → parseFieldDescriptor (TJx145de k).2.2.1 = some (tyJx145de k) := by decide +kernel
def RJx9f9b0 : String := "java/lang/CharSequence"
def TJx9f9b0 : u_T := fun k => match k with
  | _ => ("", "", "", false)
def tyJx9f9b0 : Nat → FieldType := fun k => match k with
  | _ => .int
abbrev wsJx9f9b00 : List Cond := u_ws RJx9f9b0 TJx9f9b0 0
theorem nmJx9f9b0 : ∀ a, a < 0 → ∀ b, b < 0 → a ≠ b → (TJx9f9b0 a).2.1 ≠ (TJx9f9b0 b).2.1 := by decide +kernel
theorem tyJx9f9b0_ok : ∀ k, k < 0 → parseFieldDescriptor (TJx9f9b0 k).2.2.1 = some (tyJx9f9b0 k) := by decide +kernel
def RJxb160c : String := "java/lang/Comparable"
def TJxb160c : u_T := fun k => match k with
  | _ => ("", "", "", false)
def tyJxb160c : Nat → FieldType := fun k => match k with
  | _ => .int
abbrev wsJxb160c0 : List Cond := u_ws RJxb160c TJxb160c 0
theorem nmJxb160c : ∀ a, a < 0 → ∀ b, b < 0 → a ≠ b → (TJxb160c a).2.1 ≠ (TJxb160c b).2.1 := by decide +kernel
theorem tyJxb160c_ok : ∀ k, k < 0 → parseFieldDescriptor (TJxb160c k).2.2.1 = some (tyJxb160c k) := by decide +kernel
def RJ6 : String := "java/lang/Integer"
def TJ6 : u_T := fun k => match k with
  | _ => ("", "", "", false)
def tyJ6 : Nat → FieldType := fun k => match k with
  | _ => .int
abbrev wsJ60 : List Cond := u_ws RJ6 TJ6 0
theorem nmJ6 : ∀ a, a < 0 → ∀ b, b < 0 → a ≠ b → (TJ6 a).2.1 ≠ (TJ6 b).2.1 := by decide +kernel
theorem tyJ6_ok : ∀ k, k < 0 → parseFieldDescriptor (TJ6 k).2.2.1 = some (tyJ6 k) := by decide +kernel
abbrev cJ6_bitCount_0f7a4 : ByteArray := prog_16_method_49_code
def yJ6_bitCount_0f7a4 : MethodName := ⟨RJ6, "bitCount", "(I)I"⟩
def RJ9 : String := "java/lang/Math"
def TJ9 : u_T := fun k => match k with
  | _ => ("", "", "", false)
def tyJ9 : Nat → FieldType := fun k => match k with
  | _ => .int
abbrev wsJ90 : List Cond := u_ws RJ9 TJ9 0
theorem nmJ9 : ∀ a, a < 0 → ∀ b, b < 0 → a ≠ b → (TJ9 a).2.1 ≠ (TJ9 b).2.1 := by decide +kernel
theorem tyJ9_ok : ∀ k, k < 0 → parseFieldDescriptor (TJ9 k).2.2.1 = some (tyJ9 k) := by decide +kernel
abbrev cJ9_floorDiv_7cf53 : ByteArray := prog_17_method_47_code
def yJ9_floorDiv_7cf53 : MethodName := ⟨RJ9, "floorDiv", "(II)I"⟩
abbrev cJ9_floorMod_7cf53 : ByteArray := prog_17_method_50_code
def yJ9_floorMod_7cf53 : MethodName := ⟨RJ9, "floorMod", "(II)I"⟩
def RJ0 : String := "java/lang/String"
def TJ0 : u_T := fun k => match k with
  | _ => ("", "", "", false)
def tyJ0 : Nat → FieldType := fun k => match k with
  | _ => .int
abbrev wsJ00 : List Cond := u_ws RJ0 TJ0 0
theorem nmJ0 : ∀ a, a < 0 → ∀ b, b < 0 → a ≠ b → (TJ0 a).2.1 ≠ (TJ0 b).2.1 := by decide +kernel
theorem tyJ0_ok : ∀ k, k < 0 → parseFieldDescriptor (TJ0 k).2.2.1 = some (tyJ0 k) := by decide +kernel
abbrev cJ0_length_8abf5 : ByteArray := prog_19_method_54_code
def yJ0_length_8abf5 : MethodName := ⟨RJ0, "length", "()I"⟩
abbrev cJ0_charAt_5068e : ByteArray := prog_19_method_56_code
def yJ0_charAt_5068e : MethodName := ⟨RJ0, "charAt", "(I)C"⟩
abbrev cJ0_coder_7d493 : ByteArray := prog_19_method_152_code
def yJ0_coder_7d493 : MethodName := ⟨RJ0, "coder", "()B"⟩
abbrev cJ0_isLatin1_aae02 : ByteArray := prog_19_method_154_code
def yJ0_isLatin1_aae02 : MethodName := ⟨RJ0, "isLatin1", "()Z"⟩
abbrev cJ0_checkIndex_df160 : ByteArray := prog_19_method_155_code
def yJ0_checkIndex_df160 : MethodName := ⟨RJ0, "checkIndex", "(II)V"⟩
def RJ1 : String := "java/lang/StringLatin1"
def TJ1 : u_T := fun k => match k with
  | _ => ("", "", "", false)
def tyJ1 : Nat → FieldType := fun k => match k with
  | _ => .int
abbrev wsJ10 : List Cond := u_ws RJ1 TJ1 0
theorem nmJ1 : ∀ a, a < 0 → ∀ b, b < 0 → a ≠ b → (TJ1 a).2.1 ≠ (TJ1 b).2.1 := by decide +kernel
theorem tyJ1_ok : ∀ k, k < 0 → parseFieldDescriptor (TJ1 k).2.2.1 = some (tyJ1 k) := by decide +kernel
abbrev cJ1_charAt_3b067 : ByteArray := prog_20_method_2_code
def yJ1_charAt_3b067 : MethodName := ⟨RJ1, "charAt", "([BI)C"⟩
def RJ2 : String := "java/lang/StringUTF16"
def TJ2 : u_T := fun k => match k with
  | _ => ("", "", "", false)
def tyJ2 : Nat → FieldType := fun k => match k with
  | _ => .int
abbrev wsJ20 : List Cond := u_ws RJ2 TJ2 0
theorem nmJ2 : ∀ a, a < 0 → ∀ b, b < 0 → a ≠ b → (TJ2 a).2.1 ≠ (TJ2 b).2.1 := by decide +kernel
theorem tyJ2_ok : ∀ k, k < 0 → parseFieldDescriptor (TJ2 k).2.2.1 = some (tyJ2 k) := by decide +kernel
abbrev cJ2_getChar_3b067 : ByteArray := prog_21_method_5_code
def yJ2_getChar_3b067 : MethodName := ⟨RJ2, "getChar", "([BI)C"⟩
abbrev cJ2_length_9d52b : ByteArray := prog_21_method_6_code
def yJ2_length_9d52b : MethodName := ⟨RJ2, "length", "([B)I"⟩
abbrev cJ2_charAt_3b067 : ByteArray := prog_21_method_83_code
def yJ2_charAt_3b067 : MethodName := ⟨RJ2, "charAt", "([BI)C"⟩
abbrev cJ2_checkIndex_2214a : ByteArray := prog_21_method_91_code
def yJ2_checkIndex_2214a : MethodName := ⟨RJ2, "checkIndex", "(I[B)V"⟩
def RJ10 : String := "java/lang/System"
def TJ10 : u_T := fun k => match k with
  | _ => ("", "", "", false)
def tyJ10 : Nat → FieldType := fun k => match k with
  | _ => .int
abbrev wsJ100 : List Cond := u_ws RJ10 TJ10 0
theorem nmJ10 : ∀ a, a < 0 → ∀ b, b < 0 → a ≠ b → (TJ10 a).2.1 ≠ (TJ10 b).2.1 := by decide +kernel
theorem tyJ10_ok : ∀ k, k < 0 → parseFieldDescriptor (TJ10 k).2.2.1 = some (tyJ10 k) := by decide +kernel
def RJxfd54e : String := "java/lang/constant/Constable"
def TJxfd54e : u_T := fun k => match k with
  | _ => ("", "", "", false)
def tyJxfd54e : Nat → FieldType := fun k => match k with
  | _ => .int
abbrev wsJxfd54e0 : List Cond := u_ws RJxfd54e TJxfd54e 0
theorem nmJxfd54e : ∀ a, a < 0 → ∀ b, b < 0 → a ≠ b → (TJxfd54e a).2.1 ≠ (TJxfd54e b).2.1 := by decide +kernel
theorem tyJxfd54e_ok : ∀ k, k < 0 → parseFieldDescriptor (TJxfd54e k).2.2.1 = some (tyJxfd54e k) := by decide +kernel
def RJx3cf43 : String := "java/lang/constant/ConstantDesc"
def TJx3cf43 : u_T := fun k => match k with
  | _ => ("", "", "", false)
def tyJx3cf43 : Nat → FieldType := fun k => match k with
  | _ => .int
abbrev wsJx3cf430 : List Cond := u_ws RJx3cf43 TJx3cf43 0
theorem nmJx3cf43 : ∀ a, a < 0 → ∀ b, b < 0 → a ≠ b → (TJx3cf43 a).2.1 ≠ (TJx3cf43 b).2.1 := by decide +kernel
theorem tyJx3cf43_ok : ∀ k, k < 0 → parseFieldDescriptor (TJx3cf43 k).2.2.1 = some (tyJx3cf43 k) := by decide +kernel
def RJ7 : String := "java/util/Arrays"
def TJ7 : u_T := fun k => match k with
  | _ => ("", "", "", false)
def tyJ7 : Nat → FieldType := fun k => match k with
  | _ => .int
abbrev wsJ70 : List Cond := u_ws RJ7 TJ7 0
theorem nmJ7 : ∀ a, a < 0 → ∀ b, b < 0 → a ≠ b → (TJ7 a).2.1 ≠ (TJ7 b).2.1 := by decide +kernel
theorem tyJ7_ok : ∀ k, k < 0 → parseFieldDescriptor (TJ7 k).2.2.1 = some (tyJ7 k) := by decide +kernel
abbrev cJ7_fill_53178 : ByteArray := prog_24_method_103_code
def yJ7_fill_53178 : MethodName := ⟨RJ7, "fill", "([II)V"⟩
def RJ3 : String := "jdk/internal/util/Preconditions"
def TJ3 : u_T := fun k => match k with
  | _ => ("", "", "", false)
def tyJ3 : Nat → FieldType := fun k => match k with
  | _ => .int
abbrev wsJ30 : List Cond := u_ws RJ3 TJ3 0
theorem nmJ3 : ∀ a, a < 0 → ∀ b, b < 0 → a ≠ b → (TJ3 a).2.1 ≠ (TJ3 b).2.1 := by decide +kernel
theorem tyJ3_ok : ∀ k, k < 0 → parseFieldDescriptor (TJ3 k).2.2.1 = some (tyJ3 k) := by decide +kernel
abbrev cJ3_checkIndex_8e157 : ByteArray := prog_25_method_11_code
def yJ3_checkIndex_8e157 : MethodName := ⟨RJ3, "checkIndex", "(IILjava/util/function/BiFunction;)I"⟩
def RL : String := "CrossedModulesLaw"
abbrev cL_load : ByteArray := method_3_code
def yL_load : MethodName := ⟨RL, "load", "(LCrossedModules;I[J)I"⟩
abbrev cL_count : ByteArray := method_4_code
def yL_count : MethodName := ⟨RL, "count", "(LCrossedModules;I[J)I"⟩
abbrev cL_letter : ByteArray := method_5_code
def yL_letter : MethodName := ⟨RL, "letter", "(LCrossedModules;III[J)I"⟩
abbrev cL_size : ByteArray := method_6_code
def yL_size : MethodName := ⟨RL, "size", "(LCrossedModules;I[J)I"⟩
abbrev cL_times : ByteArray := method_7_code
def yL_times : MethodName := ⟨RL, "times", "(LCrossedModules;III[J)I"⟩
abbrev cL_inverse : ByteArray := method_8_code
def yL_inverse : MethodName := ⟨RL, "inverse", "(LCrossedModules;II[J)I"⟩
abbrev cL_orderOf : ByteArray := method_9_code
def yL_orderOf : MethodName := ⟨RL, "orderOf", "(LCrossedModules;II[J)I"⟩
abbrev cL_centre : ByteArray := method_10_code
def yL_centre : MethodName := ⟨RL, "centre", "(LCrossedModules;I[J)I"⟩
abbrev cL_conjugacy : ByteArray := method_11_code
def yL_conjugacy : MethodName := ⟨RL, "conjugacy", "(LCrossedModules;I[J)I"⟩
abbrev cL_generated : ByteArray := method_12_code
def yL_generated : MethodName := ⟨RL, "generated", "(LCrossedModules;II[J)I"⟩
abbrev cL_normal : ByteArray := method_13_code
def yL_normal : MethodName := ⟨RL, "normal", "(LCrossedModules;II[J)I"⟩
abbrev cL_groupOf : ByteArray := method_14_code
def yL_groupOf : MethodName := ⟨RL, "groupOf", "(LCrossedModules;IZ[J)I"⟩
abbrev cL_boundary : ByteArray := method_15_code
def yL_boundary : MethodName := ⟨RL, "boundary", "(LCrossedModules;II[J)I"⟩
abbrev cL_act : ByteArray := method_16_code
def yL_act : MethodName := ⟨RL, "act", "(LCrossedModules;III[J)I"⟩
abbrev cL_why : ByteArray := method_17_code
def yL_why : MethodName := ⟨RL, "why", "(LCrossedModules;I[J)I"⟩
abbrev cL_lawful : ByteArray := method_18_code
def yL_lawful : MethodName := ⟨RL, "lawful", "(LCrossedModules;[J)I"⟩
abbrev cL_kernel : ByteArray := method_19_code
def yL_kernel : MethodName := ⟨RL, "kernel", "(LCrossedModules;I[J)I"⟩
abbrev cL_image : ByteArray := method_20_code
def yL_image : MethodName := ⟨RL, "image", "(LCrossedModules;I[J)I"⟩
abbrev cL_isCentral : ByteArray := method_21_code
def yL_isCentral : MethodName := ⟨RL, "isCentral", "(LCrossedModules;I[J)I"⟩
abbrev cL_fixed : ByteArray := method_22_code
def yL_fixed : MethodName := ⟨RL, "fixed", "(LCrossedModules;II[J)I"⟩
abbrev cL_orbit : ByteArray := method_23_code
def yL_orbit : MethodName := ⟨RL, "orbit", "(LCrossedModules;II[J)I"⟩
abbrev cL_classes : ByteArray := method_24_code
def yL_classes : MethodName := ⟨RL, "classes", "(LCrossedModules;I[J)I"⟩
abbrev cL_classOf : ByteArray := method_25_code
def yL_classOf : MethodName := ⟨RL, "classOf", "(LCrossedModules;II[J)I"⟩
abbrev cL_classTimes : ByteArray := method_26_code
def yL_classTimes : MethodName := ⟨RL, "classTimes", "(LCrossedModules;III[J)I"⟩
abbrev cL_classAct : ByteArray := method_27_code
def yL_classAct : MethodName := ⟨RL, "classAct", "(LCrossedModules;III[J)I"⟩
abbrev cL_profile : ByteArray := method_28_code
def yL_profile : MethodName := ⟨RL, "profile", "(LCrossedModules;IZI[J)I"⟩
abbrev cL_areAlike : ByteArray := method_29_code
def yL_areAlike : MethodName := ⟨RL, "areAlike", "(LCrossedModules;II[J)I"⟩
abbrev cL_kinds : ByteArray := method_30_code
def yL_kinds : MethodName := ⟨RL, "kinds", "(LCrossedModules;[J)I"⟩
abbrev cL_firstAlike : ByteArray := method_31_code
def yL_firstAlike : MethodName := ⟨RL, "firstAlike", "(LCrossedModules;I[J)I"⟩
abbrev cL_largeTimes : ByteArray := method_32_code
def yL_largeTimes : MethodName := ⟨RL, "largeTimes", "(LCrossedModules;III[J)I"⟩
abbrev cL_target : ByteArray := method_33_code
def yL_target : MethodName := ⟨RL, "target", "(LCrossedModules;II[J)I"⟩
abbrev cL_largeOrder : ByteArray := method_34_code
def yL_largeOrder : MethodName := ⟨RL, "largeOrder", "(LCrossedModules;II[J)I"⟩
abbrev cL_between : ByteArray := method_35_code
def yL_between : MethodName := ⟨RL, "between", "(LCrossedModules;III[J)I"⟩
abbrev cL_end : ByteArray := method_36_code
def yL_end : MethodName := ⟨RL, "end", "(LCrossedModules;IZ[J)I"⟩
abbrev cL_top : ByteArray := method_37_code
def yL_top : MethodName := ⟨RL, "top", "(LCrossedModules;II[J)I"⟩
abbrev cL_bottom : ByteArray := method_38_code
def yL_bottom : MethodName := ⟨RL, "bottom", "(LCrossedModules;II[J)I"⟩
abbrev cL_arrowWhy : ByteArray := method_39_code
def yL_arrowWhy : MethodName := ⟨RL, "arrowWhy", "(LCrossedModules;I[J)I"⟩
abbrev cL_isEquivalence : ByteArray := method_40_code
def yL_isEquivalence : MethodName := ⟨RL, "isEquivalence", "(LCrossedModules;I[J)I"⟩
abbrev cL_equivalences : ByteArray := method_41_code
def yL_equivalences : MethodName := ⟨RL, "equivalences", "(LCrossedModules;[J)I"⟩
abbrev cL_ladder : ByteArray := method_42_code
def yL_ladder : MethodName := ⟨RL, "ladder", "(LCrossedModules;II[J)I"⟩
abbrev cL_joined : ByteArray := method_43_code
def yL_joined : MethodName := ⟨RL, "joined", "(LCrossedModules;I[J)I"⟩
abbrev cL_through : ByteArray := method_44_code
def yL_through : MethodName := ⟨RL, "through", "(LCrossedModules;III[J)I"⟩
abbrev cL_account : ByteArray := method_45_code
def yL_account : MethodName := ⟨RL, "account", "(LCrossedModules;I[J)I"⟩
abbrev cL_writeModule : ByteArray := method_46_code
def yL_writeModule : MethodName := ⟨RL, "writeModule", "(LCrossedModules;I[J)I"⟩
abbrev cL_writeTable : ByteArray := method_47_code
def yL_writeTable : MethodName := ⟨RL, "writeTable", "(LCrossedModules;I[J)I"⟩
abbrev cL_textByte : ByteArray := method_48_code
def yL_textByte : MethodName := ⟨RL, "textByte", "(LCrossedModules;I[J)I"⟩
abbrev cL_setBoundary : ByteArray := method_49_code
def yL_setBoundary : MethodName := ⟨RL, "setBoundary", "(LCrossedModules;III[J)I"⟩
abbrev cL_setAct : ByteArray := method_50_code
def yL_setAct : MethodName := ⟨RL, "setAct", "(LCrossedModules;IIII[J)I"⟩
abbrev cL_rest : ByteArray := method_51_code
def yL_rest : MethodName := ⟨RL, "rest", "(LCrossedModules;I[J)I"⟩
abbrev cL_conjugate : ByteArray := method_52_code
def yL_conjugate : MethodName := ⟨RL, "conjugate", "(LCrossedModules;I[J)I"⟩
abbrev cL_setTop : ByteArray := method_53_code
def yL_setTop : MethodName := ⟨RL, "setTop", "(LCrossedModules;III[J)I"⟩
abbrev cL_setBottom : ByteArray := method_54_code
def yL_setBottom : MethodName := ⟨RL, "setBottom", "(LCrossedModules;III[J)I"⟩
abbrev cL_undo : ByteArray := method_55_code
def yL_undo : MethodName := ⟨RL, "undo", "(LCrossedModules;[J)I"⟩
abbrev cL_save : ByteArray := method_56_code
def yL_save : MethodName := ⟨RL, "save", "(LCrossedModules;I[J)I"⟩
abbrev cL_restore : ByteArray := method_57_code
def yL_restore : MethodName := ⟨RL, "restore", "(LCrossedModules;I[J)I"⟩
abbrev cL_law : ByteArray := code
def yL_law : MethodName := ⟨RL, "law", "([I)Z"⟩
abbrev vwCl : List vw_C := [(RX0, TX0, 4), (RX1, TX1, 8), (RX2, TX2, 4), (RX3, TX3, 3), (RX4, TX4, 5), (RX5, TX5, 4), (RX6, TX6, 7), (RX7, TX7, 7), (RX8, TX8, 14), (RX9, TX9, 45)]
