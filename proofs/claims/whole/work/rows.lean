section
-- ===== PART A: goes FIRST, ahead of the names: the tables' words, and 'selects' of the private methods out of them =====
/-- a private method of a class that the tables say can be made, by its rows of tables_1 -/
def lw_okq (q : MethodName × Nat) : Prop := (q.1.cls ≠ "java/lang/invoke/MethodHandle" ∧ q.1.cls ≠ "java/lang/invoke/VarHandle") ∧ Cond.instantiable q.1.cls q.2 ∈ tables_1 ∧ Cond.privateMethod q.1 ∈ tables_1 ∧ Cond.instanceMethod q.1 ∈ tables_1
theorem lw_p0 : lw_okq (⟨"RelayNetwork", "leaveChannel", "(III)I"⟩, 4) := ⟨⟨by decide +kernel, by decide +kernel⟩, List.mem_of_getElem? (i := 18) (by decide +kernel), List.mem_of_getElem? (i := 416) (by decide +kernel), List.mem_of_getElem? (i := 417) (by decide +kernel)⟩
theorem lw_p1 : lw_okq (⟨"RelayNetwork$PlanSearch", "load", "(LRelayNetwork$State;)I"⟩, 5) := ⟨⟨by decide +kernel, by decide +kernel⟩, List.mem_of_getElem? (i := 107) (by decide +kernel), List.mem_of_getElem? (i := 617) (by decide +kernel), List.mem_of_getElem? (i := 618) (by decide +kernel)⟩
theorem lw_p2 : lw_okq (⟨"RelayNetwork$PlanSearch", "search", "(II)V"⟩, 5) := ⟨⟨by decide +kernel, by decide +kernel⟩, List.mem_of_getElem? (i := 107) (by decide +kernel), List.mem_of_getElem? (i := 625) (by decide +kernel), List.mem_of_getElem? (i := 626) (by decide +kernel)⟩
theorem lw_p3 : lw_okq (⟨"RelayNetwork$PlanSearch", "tryLinks", "(II)V"⟩, 5) := ⟨⟨by decide +kernel, by decide +kernel⟩, List.mem_of_getElem? (i := 107) (by decide +kernel), List.mem_of_getElem? (i := 635) (by decide +kernel), List.mem_of_getElem? (i := 636) (by decide +kernel)⟩
theorem lw_p4 : lw_okq (⟨"RelayNetworkModel", "reset", "(I)V"⟩, 13) := ⟨⟨by decide +kernel, by decide +kernel⟩, List.mem_of_getElem? (i := 657) (by decide +kernel), List.mem_of_getElem? (i := 663) (by decide +kernel), List.mem_of_getElem? (i := 664) (by decide +kernel)⟩
theorem lw_p5 : lw_okq (⟨"RelayNetworkModel", "save", "()V"⟩, 13) := ⟨⟨by decide +kernel, by decide +kernel⟩, List.mem_of_getElem? (i := 657) (by decide +kernel), List.mem_of_getElem? (i := 718) (by decide +kernel), List.mem_of_getElem? (i := 719) (by decide +kernel)⟩
theorem lw_p6 : lw_okq (⟨"RelayNetworkModel", "areServers", "(II)Z"⟩, 13) := ⟨⟨by decide +kernel, by decide +kernel⟩, List.mem_of_getElem? (i := 657) (by decide +kernel), List.mem_of_getElem? (i := 726) (by decide +kernel), List.mem_of_getElem? (i := 727) (by decide +kernel)⟩
theorem lw_p7 : lw_okq (⟨"RelayNetworkModel", "isServer", "(I)Z"⟩, 13) := ⟨⟨by decide +kernel, by decide +kernel⟩, List.mem_of_getElem? (i := 657) (by decide +kernel), List.mem_of_getElem? (i := 730) (by decide +kernel), List.mem_of_getElem? (i := 731) (by decide +kernel)⟩
theorem lw_p8 : lw_okq (⟨"RelayNetworkModel", "areConnected", "(II)Z"⟩, 13) := ⟨⟨by decide +kernel, by decide +kernel⟩, List.mem_of_getElem? (i := 657) (by decide +kernel), List.mem_of_getElem? (i := 734) (by decide +kernel), List.mem_of_getElem? (i := 735) (by decide +kernel)⟩
theorem lw_p9 : lw_okq (⟨"RelayNetworkModel", "network", "(I)I"⟩, 13) := ⟨⟨by decide +kernel, by decide +kernel⟩, List.mem_of_getElem? (i := 657) (by decide +kernel), List.mem_of_getElem? (i := 738) (by decide +kernel), List.mem_of_getElem? (i := 739) (by decide +kernel)⟩
theorem lw_p10 : lw_okq (⟨"RelayNetworkModel", "mergeNicks", "(II)I"⟩, 13) := ⟨⟨by decide +kernel, by decide +kernel⟩, List.mem_of_getElem? (i := 657) (by decide +kernel), List.mem_of_getElem? (i := 745) (by decide +kernel), List.mem_of_getElem? (i := 746) (by decide +kernel)⟩
theorem lw_p11 : lw_okq (⟨"RelayNetworkModel", "homeIn", "(II)I"⟩, 13) := ⟨⟨by decide +kernel, by decide +kernel⟩, List.mem_of_getElem? (i := 657) (by decide +kernel), List.mem_of_getElem? (i := 749) (by decide +kernel), List.mem_of_getElem? (i := 750) (by decide +kernel)⟩
theorem lw_p12 : lw_okq (⟨"RelayNetworkModel", "isUser", "(II)Z"⟩, 13) := ⟨⟨by decide +kernel, by decide +kernel⟩, List.mem_of_getElem? (i := 657) (by decide +kernel), List.mem_of_getElem? (i := 753) (by decide +kernel), List.mem_of_getElem? (i := 754) (by decide +kernel)⟩
theorem lw_p13 : lw_okq (⟨"RelayNetworkModel", "removeUser", "(II)V"⟩, 13) := ⟨⟨by decide +kernel, by decide +kernel⟩, List.mem_of_getElem? (i := 657) (by decide +kernel), List.mem_of_getElem? (i := 760) (by decide +kernel), List.mem_of_getElem? (i := 761) (by decide +kernel)⟩
theorem lw_p14 : lw_okq (⟨"RelayNetworkModel", "mergeChannel", "(III)V"⟩, 13) := ⟨⟨by decide +kernel, by decide +kernel⟩, List.mem_of_getElem? (i := 657) (by decide +kernel), List.mem_of_getElem? (i := 764) (by decide +kernel), List.mem_of_getElem? (i := 765) (by decide +kernel)⟩
theorem lw_p15 : lw_okq (⟨"RelayNetworkModel", "membersIn", "(II)I"⟩, 13) := ⟨⟨by decide +kernel, by decide +kernel⟩, List.mem_of_getElem? (i := 657) (by decide +kernel), List.mem_of_getElem? (i := 768) (by decide +kernel), List.mem_of_getElem? (i := 769) (by decide +kernel)⟩
def lw_privs_1 : List (MethodName × Nat) := [(⟨"RelayNetwork", "leaveChannel", "(III)I"⟩, 4), (⟨"RelayNetwork$PlanSearch", "load", "(LRelayNetwork$State;)I"⟩, 5), (⟨"RelayNetwork$PlanSearch", "search", "(II)V"⟩, 5), (⟨"RelayNetwork$PlanSearch", "tryLinks", "(II)V"⟩, 5), (⟨"RelayNetworkModel", "reset", "(I)V"⟩, 13), (⟨"RelayNetworkModel", "save", "()V"⟩, 13), (⟨"RelayNetworkModel", "areServers", "(II)Z"⟩, 13), (⟨"RelayNetworkModel", "isServer", "(I)Z"⟩, 13), (⟨"RelayNetworkModel", "areConnected", "(II)Z"⟩, 13), (⟨"RelayNetworkModel", "network", "(I)I"⟩, 13), (⟨"RelayNetworkModel", "mergeNicks", "(II)I"⟩, 13), (⟨"RelayNetworkModel", "homeIn", "(II)I"⟩, 13), (⟨"RelayNetworkModel", "isUser", "(II)Z"⟩, 13), (⟨"RelayNetworkModel", "removeUser", "(II)V"⟩, 13), (⟨"RelayNetworkModel", "mergeChannel", "(III)V"⟩, 13), (⟨"RelayNetworkModel", "membersIn", "(II)I"⟩, 13)]
theorem lw_r1 : ∀ q ∈ lw_privs_1, lw_okq q := List.forall_mem_cons.mpr ⟨lw_p0, List.forall_mem_cons.mpr ⟨lw_p1, List.forall_mem_cons.mpr ⟨lw_p2, List.forall_mem_cons.mpr ⟨lw_p3, List.forall_mem_cons.mpr ⟨lw_p4, List.forall_mem_cons.mpr ⟨lw_p5, List.forall_mem_cons.mpr ⟨lw_p6, List.forall_mem_cons.mpr ⟨lw_p7, List.forall_mem_cons.mpr ⟨lw_p8, List.forall_mem_cons.mpr ⟨lw_p9, List.forall_mem_cons.mpr ⟨lw_p10, List.forall_mem_cons.mpr ⟨lw_p11, List.forall_mem_cons.mpr ⟨lw_p12, List.forall_mem_cons.mpr ⟨lw_p13, List.forall_mem_cons.mpr ⟨lw_p14, List.forall_mem_cons.mpr ⟨lw_p15, fun _ h => absurd h List.not_mem_nil⟩⟩⟩⟩⟩⟩⟩⟩⟩⟩⟩⟩⟩⟩⟩⟩
theorem lw_p16 : lw_okq (⟨"RelayNetworkModel", "nicksIn", "(III)I"⟩, 13) := ⟨⟨by decide +kernel, by decide +kernel⟩, List.mem_of_getElem? (i := 657) (by decide +kernel), List.mem_of_getElem? (i := 772) (by decide +kernel), List.mem_of_getElem? (i := 773) (by decide +kernel)⟩
theorem lw_p17 : lw_okq (⟨"RelayNetworkModel", "setChannel", "(IIII)V"⟩, 13) := ⟨⟨by decide +kernel, by decide +kernel⟩, List.mem_of_getElem? (i := 657) (by decide +kernel), List.mem_of_getElem? (i := 776) (by decide +kernel), List.mem_of_getElem? (i := 777) (by decide +kernel)⟩
theorem lw_p18 : lw_okq (⟨"RelayNetworkModel", "depriveAll", "(II)V"⟩, 13) := ⟨⟨by decide +kernel, by decide +kernel⟩, List.mem_of_getElem? (i := 657) (by decide +kernel), List.mem_of_getElem? (i := 780) (by decide +kernel), List.mem_of_getElem? (i := 781) (by decide +kernel)⟩
theorem lw_p19 : lw_okq (⟨"RelayNetworkModel", "setLink", "(IIZ)V"⟩, 13) := ⟨⟨by decide +kernel, by decide +kernel⟩, List.mem_of_getElem? (i := 657) (by decide +kernel), List.mem_of_getElem? (i := 787) (by decide +kernel), List.mem_of_getElem? (i := 788) (by decide +kernel)⟩
theorem lw_p20 : lw_okq (⟨"RelayNetworkModel", "areLinked", "(II)Z"⟩, 13) := ⟨⟨by decide +kernel, by decide +kernel⟩, List.mem_of_getElem? (i := 657) (by decide +kernel), List.mem_of_getElem? (i := 795) (by decide +kernel), List.mem_of_getElem? (i := 796) (by decide +kernel)⟩
theorem lw_p21 : lw_okq (⟨"RelayNetworkModel", "isPlace", "(II)Z"⟩, 13) := ⟨⟨by decide +kernel, by decide +kernel⟩, List.mem_of_getElem? (i := 657) (by decide +kernel), List.mem_of_getElem? (i := 815) (by decide +kernel), List.mem_of_getElem? (i := 816) (by decide +kernel)⟩
theorem lw_p22 : lw_okq (⟨"RelayNetworkModel", "isMember", "(III)Z"⟩, 13) := ⟨⟨by decide +kernel, by decide +kernel⟩, List.mem_of_getElem? (i := 657) (by decide +kernel), List.mem_of_getElem? (i := 849) (by decide +kernel), List.mem_of_getElem? (i := 850) (by decide +kernel)⟩
theorem lw_p23 : lw_okq (⟨"RelayNetworkModel", "memberCount", "(II)I"⟩, 13) := ⟨⟨by decide +kernel, by decide +kernel⟩, List.mem_of_getElem? (i := 657) (by decide +kernel), List.mem_of_getElem? (i := 853) (by decide +kernel), List.mem_of_getElem? (i := 854) (by decide +kernel)⟩
theorem lw_p24 : lw_okq (⟨"RelayNetworkModel", "leave", "(III)V"⟩, 13) := ⟨⟨by decide +kernel, by decide +kernel⟩, List.mem_of_getElem? (i := 657) (by decide +kernel), List.mem_of_getElem? (i := 861) (by decide +kernel), List.mem_of_getElem? (i := 862) (by decide +kernel)⟩
theorem lw_p25 : lw_okq (⟨"RelayNetworkModel", "isOperator", "(III)Z"⟩, 13) := ⟨⟨by decide +kernel, by decide +kernel⟩, List.mem_of_getElem? (i := 657) (by decide +kernel), List.mem_of_getElem? (i := 869) (by decide +kernel), List.mem_of_getElem? (i := 870) (by decide +kernel)⟩
theorem lw_p26 : lw_okq (⟨"RelayNetworkModel", "check", "(I)I"⟩, 13) := ⟨⟨by decide +kernel, by decide +kernel⟩, List.mem_of_getElem? (i := 657) (by decide +kernel), List.mem_of_getElem? (i := 885) (by decide +kernel), List.mem_of_getElem? (i := 886) (by decide +kernel)⟩
theorem lw_p27 : lw_okq (⟨"RelayNetworkModel", "applyText", "(II)V"⟩, 13) := ⟨⟨by decide +kernel, by decide +kernel⟩, List.mem_of_getElem? (i := 657) (by decide +kernel), List.mem_of_getElem? (i := 895) (by decide +kernel), List.mem_of_getElem? (i := 896) (by decide +kernel)⟩
theorem lw_p28 : lw_okq (⟨"RelayNetworkModel", "setOperator", "(IIIZ)V"⟩, 13) := ⟨⟨by decide +kernel, by decide +kernel⟩, List.mem_of_getElem? (i := 657) (by decide +kernel), List.mem_of_getElem? (i := 899) (by decide +kernel), List.mem_of_getElem? (i := 900) (by decide +kernel)⟩
theorem lw_p29 : lw_okq (⟨"RelayNetworkModel", "valueOf", "(III)I"⟩, 13) := ⟨⟨by decide +kernel, by decide +kernel⟩, List.mem_of_getElem? (i := 657) (by decide +kernel), List.mem_of_getElem? (i := 915) (by decide +kernel), List.mem_of_getElem? (i := 916) (by decide +kernel)⟩
theorem lw_p30 : lw_okq (⟨"RelayNetworkModel", "forecastError", "(II)I"⟩, 13) := ⟨⟨by decide +kernel, by decide +kernel⟩, List.mem_of_getElem? (i := 657) (by decide +kernel), List.mem_of_getElem? (i := 935) (by decide +kernel), List.mem_of_getElem? (i := 936) (by decide +kernel)⟩
theorem lw_p31 : lw_okq (⟨"RelayNetworkModel", "burstOf", "(I)I"⟩, 13) := ⟨⟨by decide +kernel, by decide +kernel⟩, List.mem_of_getElem? (i := 657) (by decide +kernel), List.mem_of_getElem? (i := 939) (by decide +kernel), List.mem_of_getElem? (i := 940) (by decide +kernel)⟩
def lw_privs_2 : List (MethodName × Nat) := [(⟨"RelayNetworkModel", "nicksIn", "(III)I"⟩, 13), (⟨"RelayNetworkModel", "setChannel", "(IIII)V"⟩, 13), (⟨"RelayNetworkModel", "depriveAll", "(II)V"⟩, 13), (⟨"RelayNetworkModel", "setLink", "(IIZ)V"⟩, 13), (⟨"RelayNetworkModel", "areLinked", "(II)Z"⟩, 13), (⟨"RelayNetworkModel", "isPlace", "(II)Z"⟩, 13), (⟨"RelayNetworkModel", "isMember", "(III)Z"⟩, 13), (⟨"RelayNetworkModel", "memberCount", "(II)I"⟩, 13), (⟨"RelayNetworkModel", "leave", "(III)V"⟩, 13), (⟨"RelayNetworkModel", "isOperator", "(III)Z"⟩, 13), (⟨"RelayNetworkModel", "check", "(I)I"⟩, 13), (⟨"RelayNetworkModel", "applyText", "(II)V"⟩, 13), (⟨"RelayNetworkModel", "setOperator", "(IIIZ)V"⟩, 13), (⟨"RelayNetworkModel", "valueOf", "(III)I"⟩, 13), (⟨"RelayNetworkModel", "forecastError", "(II)I"⟩, 13), (⟨"RelayNetworkModel", "burstOf", "(I)I"⟩, 13)]
theorem lw_r2 : ∀ q ∈ lw_privs_2, lw_okq q := List.forall_mem_cons.mpr ⟨lw_p16, List.forall_mem_cons.mpr ⟨lw_p17, List.forall_mem_cons.mpr ⟨lw_p18, List.forall_mem_cons.mpr ⟨lw_p19, List.forall_mem_cons.mpr ⟨lw_p20, List.forall_mem_cons.mpr ⟨lw_p21, List.forall_mem_cons.mpr ⟨lw_p22, List.forall_mem_cons.mpr ⟨lw_p23, List.forall_mem_cons.mpr ⟨lw_p24, List.forall_mem_cons.mpr ⟨lw_p25, List.forall_mem_cons.mpr ⟨lw_p26, List.forall_mem_cons.mpr ⟨lw_p27, List.forall_mem_cons.mpr ⟨lw_p28, List.forall_mem_cons.mpr ⟨lw_p29, List.forall_mem_cons.mpr ⟨lw_p30, List.forall_mem_cons.mpr ⟨lw_p31, fun _ h => absurd h List.not_mem_nil⟩⟩⟩⟩⟩⟩⟩⟩⟩⟩⟩⟩⟩⟩⟩⟩
theorem lw_p32 : lw_okq (⟨"RelayNetworkModel", "readGroup", "(II)V"⟩, 13) := ⟨⟨by decide +kernel, by decide +kernel⟩, List.mem_of_getElem? (i := 657) (by decide +kernel), List.mem_of_getElem? (i := 947) (by decide +kernel), List.mem_of_getElem? (i := 948) (by decide +kernel)⟩
theorem lw_p33 : lw_okq (⟨"RelayNetworkModel", "mergeGroups", "(III)I"⟩, 13) := ⟨⟨by decide +kernel, by decide +kernel⟩, List.mem_of_getElem? (i := 657) (by decide +kernel), List.mem_of_getElem? (i := 954) (by decide +kernel), List.mem_of_getElem? (i := 955) (by decide +kernel)⟩
theorem lw_p34 : lw_okq (⟨"RelayNetworkModel", "usersOutside", "(I)I"⟩, 13) := ⟨⟨by decide +kernel, by decide +kernel⟩, List.mem_of_getElem? (i := 657) (by decide +kernel), List.mem_of_getElem? (i := 962) (by decide +kernel), List.mem_of_getElem? (i := 963) (by decide +kernel)⟩
theorem lw_p35 : lw_okq (⟨"RelayNetworkModel", "searchPlans", "()V"⟩, 13) := ⟨⟨by decide +kernel, by decide +kernel⟩, List.mem_of_getElem? (i := 657) (by decide +kernel), List.mem_of_getElem? (i := 970) (by decide +kernel), List.mem_of_getElem? (i := 971) (by decide +kernel)⟩
theorem lw_p36 : lw_okq (⟨"RelayNetworkModel", "readGroups", "()I"⟩, 13) := ⟨⟨by decide +kernel, by decide +kernel⟩, List.mem_of_getElem? (i := 657) (by decide +kernel), List.mem_of_getElem? (i := 974) (by decide +kernel), List.mem_of_getElem? (i := 975) (by decide +kernel)⟩
theorem lw_p37 : lw_okq (⟨"RelayNetworkModel", "nextPair", "(II)Z"⟩, 13) := ⟨⟨by decide +kernel, by decide +kernel⟩, List.mem_of_getElem? (i := 657) (by decide +kernel), List.mem_of_getElem? (i := 978) (by decide +kernel), List.mem_of_getElem? (i := 979) (by decide +kernel)⟩
theorem lw_p38 : lw_okq (⟨"RelayNetworkModel", "descend", "(II)V"⟩, 13) := ⟨⟨by decide +kernel, by decide +kernel⟩, List.mem_of_getElem? (i := 657) (by decide +kernel), List.mem_of_getElem? (i := 982) (by decide +kernel), List.mem_of_getElem? (i := 983) (by decide +kernel)⟩
def lw_privs_3 : List (MethodName × Nat) := [(⟨"RelayNetworkModel", "readGroup", "(II)V"⟩, 13), (⟨"RelayNetworkModel", "mergeGroups", "(III)I"⟩, 13), (⟨"RelayNetworkModel", "usersOutside", "(I)I"⟩, 13), (⟨"RelayNetworkModel", "searchPlans", "()V"⟩, 13), (⟨"RelayNetworkModel", "readGroups", "()I"⟩, 13), (⟨"RelayNetworkModel", "nextPair", "(II)Z"⟩, 13), (⟨"RelayNetworkModel", "descend", "(II)V"⟩, 13)]
theorem lw_r3 : ∀ q ∈ lw_privs_3, lw_okq q := List.forall_mem_cons.mpr ⟨lw_p32, List.forall_mem_cons.mpr ⟨lw_p33, List.forall_mem_cons.mpr ⟨lw_p34, List.forall_mem_cons.mpr ⟨lw_p35, List.forall_mem_cons.mpr ⟨lw_p36, List.forall_mem_cons.mpr ⟨lw_p37, List.forall_mem_cons.mpr ⟨lw_p38, fun _ h => absurd h List.not_mem_nil⟩⟩⟩⟩⟩⟩⟩
def lw_privs : List (MethodName × Nat) := lw_privs_1 ++ (lw_privs_2 ++ (lw_privs_3))
def lw_tbl : List Cond := k2_sels lw_privs ++ tables_1
theorem lw_privs_ok : ∀ q ∈ lw_privs, lw_okq q := by
  show ∀ q ∈ lw_privs_1 ++ (lw_privs_2 ++ (lw_privs_3)), lw_okq q
  exact List.forall_mem_append.mpr ⟨lw_r1, List.forall_mem_append.mpr ⟨lw_r2, lw_r3⟩⟩
def RX0 : String := "RelayNetwork$History"
def TX0 : u_T := fun k => match k with
  | 0 => ("RelayNetwork$History", "rows", "[LRelayNetwork$State;", true)
  | 1 => ("RelayNetwork$History", "next", "I", false)
  | _ => ("RelayNetwork$History", "count", "I", false)
def tyX0 : Nat → FieldType := fun k => match k with
  | 0 => .array (.object "RelayNetwork$State")
  | 1 => .int
  | _ => .int
theorem nmX0 : ∀ a, a < 3 → ∀ b, b < 3 → a ≠ b → (TX0 a).2.1 ≠ (TX0 b).2.1 := by decide +kernel
theorem tyX0_ok : ∀ k, k < 3 → parseFieldDescriptor (TX0 k).2.2.1 = some (tyX0 k) := by decide +kernel
abbrev cX0_init : ByteArray := prog_2_method_1_code
def yX0_init : MethodName := ⟨RX0, "<init>", "()V"⟩
abbrev cX0_keep : ByteArray := prog_2_method_2_code
def yX0_keep : MethodName := ⟨RX0, "keep", "(LRelayNetwork$State;)V"⟩
abbrev cX0_takeBack : ByteArray := prog_2_method_3_code
def yX0_takeBack : MethodName := ⟨RX0, "takeBack", "(LRelayNetwork$State;)V"⟩
def RX1 : String := "RelayNetwork$Merge"
def TX1 : u_T := fun k => match k with
  | _ => ("", "", "", false)
def tyX1 : Nat → FieldType := fun k => match k with
  | _ => .int
theorem nmX1 : ∀ a, a < 0 → ∀ b, b < 0 → a ≠ b → (TX1 a).2.1 ≠ (TX1 b).2.1 := by decide +kernel
theorem tyX1_ok : ∀ k, k < 0 → parseFieldDescriptor (TX1 k).2.2.1 = some (tyX1 k) := by decide +kernel
abbrev cX1_survivor : ByteArray := prog_3_method_2_code
def yX1_survivor : MethodName := ⟨RX1, "survivor", "(II)I"⟩
abbrev cX1_countKills : ByteArray := prog_3_method_3_code
def yX1_countKills : MethodName := ⟨RX1, "countKills", "(LRelayNetwork$State;II)I"⟩
abbrev cX1_settleNicks : ByteArray := prog_3_method_4_code
def yX1_settleNicks : MethodName := ⟨RX1, "settleNicks", "(LRelayNetwork$State;II)V"⟩
abbrev cX1_settleCollision : ByteArray := prog_3_method_5_code
def yX1_settleCollision : MethodName := ⟨RX1, "settleCollision", "(LRelayNetwork$State;III)V"⟩
abbrev cX1_settleChannels : ByteArray := prog_3_method_6_code
def yX1_settleChannels : MethodName := ⟨RX1, "settleChannels", "(LRelayNetwork$State;II)V"⟩
abbrev cX1_uniteChannels : ByteArray := prog_3_method_7_code
def yX1_uniteChannels : MethodName := ⟨RX1, "uniteChannels", "(LRelayNetwork$State;III)V"⟩
abbrev cX1_overruleChannel : ByteArray := prog_3_method_8_code
def yX1_overruleChannel : MethodName := ⟨RX1, "overruleChannel", "(LRelayNetwork$State;III)V"⟩
abbrev cX1_tellOfChannel : ByteArray := prog_3_method_9_code
def yX1_tellOfChannel : MethodName := ⟨RX1, "tellOfChannel", "(LRelayNetwork$State;III)V"⟩
def RX2 : String := "RelayNetwork$ModeText"
def TX2 : u_T := fun k => match k with
  | 0 => ("RelayNetwork$ModeText", "characters", "[C", true)
  | _ => ("RelayNetwork$ModeText", "length", "I", false)
def tyX2 : Nat → FieldType := fun k => match k with
  | 0 => .array .char
  | _ => .int
theorem nmX2 : ∀ a, a < 2 → ∀ b, b < 2 → a ≠ b → (TX2 a).2.1 ≠ (TX2 b).2.1 := by decide +kernel
theorem tyX2_ok : ∀ k, k < 2 → parseFieldDescriptor (TX2 k).2.2.1 = some (tyX2 k) := by decide +kernel
abbrev cX2_init : ByteArray := prog_4_method_1_code
def yX2_init : MethodName := ⟨RX2, "<init>", "()V"⟩
abbrev cX2_isFull : ByteArray := prog_4_method_2_code
def yX2_isFull : MethodName := ⟨RX2, "isFull", "()Z"⟩
abbrev cX2_add : ByteArray := prog_4_method_3_code
def yX2_add : MethodName := ⟨RX2, "add", "(C)V"⟩
abbrev cX2_empty : ByteArray := prog_4_method_4_code
def yX2_empty : MethodName := ⟨RX2, "empty", "()V"⟩
abbrev cX2_errorOffset : ByteArray := prog_4_method_5_code
def yX2_errorOffset : MethodName := ⟨RX2, "errorOffset", "(I)I"⟩
abbrev cX2_placeAfter : ByteArray := prog_4_method_6_code
def yX2_placeAfter : MethodName := ⟨RX2, "placeAfter", "(ICI)I"⟩
abbrev cX2_modesAfter : ByteArray := prog_4_method_7_code
def yX2_modesAfter : MethodName := ⟨RX2, "modesAfter", "(I)I"⟩
abbrev cX2_operatorsAfter : ByteArray := prog_4_method_8_code
def yX2_operatorsAfter : MethodName := ⟨RX2, "operatorsAfter", "(I)I"⟩
abbrev cX2_countItems : ByteArray := prog_4_method_9_code
def yX2_countItems : MethodName := ⟨RX2, "countItems", "()I"⟩
abbrev cX2_isSign : ByteArray := prog_4_method_10_code
def yX2_isSign : MethodName := ⟨RX2, "isSign", "(C)Z"⟩
abbrev cX2_isDigit : ByteArray := prog_4_method_11_code
def yX2_isDigit : MethodName := ⟨RX2, "isDigit", "(C)Z"⟩
def RX3 : String := "RelayNetwork$PlanSearch"
def TX3 : u_T := fun k => match k with
  | 0 => ("RelayNetwork$PlanSearch", "times", "[[I", true)
  | 1 => ("RelayNetwork$PlanSearch", "representatives", "[I", true)
  | 2 => ("RelayNetwork$PlanSearch", "opening", "I", false)
  | 3 => ("RelayNetwork$PlanSearch", "bestOpening", "I", false)
  | _ => ("RelayNetwork$PlanSearch", "bestSurvivors", "I", false)
def tyX3 : Nat → FieldType := fun k => match k with
  | 0 => .array (.array .int)
  | 1 => .array .int
  | 2 => .int
  | 3 => .int
  | _ => .int
theorem nmX3 : ∀ a, a < 5 → ∀ b, b < 5 → a ≠ b → (TX3 a).2.1 ≠ (TX3 b).2.1 := by decide +kernel
theorem tyX3_ok : ∀ k, k < 5 → parseFieldDescriptor (TX3 k).2.2.1 = some (tyX3 k) := by decide +kernel
abbrev cX3_init : ByteArray := prog_5_method_1_code
def yX3_init : MethodName := ⟨RX3, "<init>", "()V"⟩
abbrev cX3_findBest : ByteArray := prog_5_method_2_code
def yX3_findBest : MethodName := ⟨RX3, "findBest", "(LRelayNetwork$State;)V"⟩
abbrev cX3_load : ByteArray := prog_5_method_3_code
def yX3_load : MethodName := ⟨RX3, "load", "(LRelayNetwork$State;)I"⟩
abbrev cX3_search : ByteArray := prog_5_method_4_code
def yX3_search : MethodName := ⟨RX3, "search", "(II)V"⟩
abbrev cX3_tryLinks : ByteArray := prog_5_method_5_code
def yX3_tryLinks : MethodName := ⟨RX3, "tryLinks", "(II)V"⟩
abbrev cX3_mergeRows : ByteArray := prog_5_method_6_code
def yX3_mergeRows : MethodName := ⟨RX3, "mergeRows", "([I[IIII)V"⟩
abbrev cX3_countHopes : ByteArray := prog_5_method_7_code
def yX3_countHopes : MethodName := ⟨RX3, "countHopes", "([II)I"⟩
abbrev cX3_mayBeLeft : ByteArray := prog_5_method_8_code
def yX3_mayBeLeft : MethodName := ⟨RX3, "mayBeLeft", "([III)Z"⟩
def RX4 : String := "RelayNetwork$State"
def TX4 : u_T := fun k => match k with
  | 0 => ("RelayNetwork$State", "serverCount", "I", false)
  | 1 => ("RelayNetwork$State", "clock", "I", false)
  | 2 => ("RelayNetwork$State", "deprived", "I", false)
  | 3 => ("RelayNetwork$State", "dropped", "I", false)
  | 4 => ("RelayNetwork$State", "links", "[I", true)
  | 5 => ("RelayNetwork$State", "userTimes", "[I", true)
  | 6 => ("RelayNetwork$State", "memberSets", "[I", true)
  | 7 => ("RelayNetwork$State", "operatorSets", "[I", true)
  | 8 => ("RelayNetwork$State", "channelTimes", "[I", true)
  | _ => ("RelayNetwork$State", "channelModes", "[I", true)
def tyX4 : Nat → FieldType := fun k => match k with
  | 0 => .int
  | 1 => .int
  | 2 => .int
  | 3 => .int
  | 4 => .array .int
  | 5 => .array .int
  | 6 => .array .int
  | 7 => .array .int
  | 8 => .array .int
  | _ => .array .int
theorem nmX4 : ∀ a, a < 10 → ∀ b, b < 10 → a ≠ b → (TX4 a).2.1 ≠ (TX4 b).2.1 := by decide +kernel
theorem tyX4_ok : ∀ k, k < 10 → parseFieldDescriptor (TX4 k).2.2.1 = some (tyX4 k) := by decide +kernel
abbrev cX4_init : ByteArray := prog_6_method_1_code
def yX4_init : MethodName := ⟨RX4, "<init>", "()V"⟩
abbrev cX4_reset : ByteArray := prog_6_method_2_code
def yX4_reset : MethodName := ⟨RX4, "reset", "(I)V"⟩
abbrev cX4_copyFrom : ByteArray := prog_6_method_3_code
def yX4_copyFrom : MethodName := ⟨RX4, "copyFrom", "(LRelayNetwork$State;)V"⟩
abbrev cX4_userCell : ByteArray := prog_6_method_4_code
def yX4_userCell : MethodName := ⟨RX4, "userCell", "(II)I"⟩
abbrev cX4_channelCell : ByteArray := prog_6_method_5_code
def yX4_channelCell : MethodName := ⟨RX4, "channelCell", "(II)I"⟩
abbrev cX4_hasServer : ByteArray := prog_6_method_6_code
def yX4_hasServer : MethodName := ⟨RX4, "hasServer", "(I)Z"⟩
abbrev cX4_hasServers : ByteArray := prog_6_method_7_code
def yX4_hasServers : MethodName := ⟨RX4, "hasServers", "(II)Z"⟩
abbrev cX4_areLinked : ByteArray := prog_6_method_8_code
def yX4_areLinked : MethodName := ⟨RX4, "areLinked", "(II)Z"⟩
abbrev cX4_link : ByteArray := prog_6_method_9_code
def yX4_link : MethodName := ⟨RX4, "link", "(II)V"⟩
abbrev cX4_unlink : ByteArray := prog_6_method_10_code
def yX4_unlink : MethodName := ⟨RX4, "unlink", "(II)V"⟩
abbrev cX4_withNeighbours : ByteArray := prog_6_method_11_code
def yX4_withNeighbours : MethodName := ⟨RX4, "withNeighbours", "(I)I"⟩
abbrev cX4_networkOf : ByteArray := prog_6_method_12_code
def yX4_networkOf : MethodName := ⟨RX4, "networkOf", "(I)I"⟩
abbrev cX4_shareNetwork : ByteArray := prog_6_method_13_code
def yX4_shareNetwork : MethodName := ⟨RX4, "shareNetwork", "(II)Z"⟩
abbrev cX4_hasUser : ByteArray := prog_6_method_14_code
def yX4_hasUser : MethodName := ⟨RX4, "hasUser", "(II)Z"⟩
abbrev cX4_timeOfUser : ByteArray := prog_6_method_15_code
def yX4_timeOfUser : MethodName := ⟨RX4, "timeOfUser", "(II)I"⟩
abbrev cX4_homeIn : ByteArray := prog_6_method_16_code
def yX4_homeIn : MethodName := ⟨RX4, "homeIn", "(II)I"⟩
abbrev cX4_timeOfNick : ByteArray := prog_6_method_17_code
def yX4_timeOfNick : MethodName := ⟨RX4, "timeOfNick", "(II)I"⟩
abbrev cX4_nicksIn : ByteArray := prog_6_method_18_code
def yX4_nicksIn : MethodName := ⟨RX4, "nicksIn", "(I)I"⟩
abbrev cX4_countUsers : ByteArray := prog_6_method_19_code
def yX4_countUsers : MethodName := ⟨RX4, "countUsers", "(I)I"⟩
abbrev cX4_countChannelsOf : ByteArray := prog_6_method_20_code
def yX4_countChannelsOf : MethodName := ⟨RX4, "countChannelsOf", "(II)I"⟩
abbrev cX4_addUser : ByteArray := prog_6_method_21_code
def yX4_addUser : MethodName := ⟨RX4, "addUser", "(II)V"⟩
abbrev cX4_removeUser : ByteArray := prog_6_method_22_code
def yX4_removeUser : MethodName := ⟨RX4, "removeUser", "(II)V"⟩
abbrev cX4_renameUser : ByteArray := prog_6_method_23_code
def yX4_renameUser : MethodName := ⟨RX4, "renameUser", "(III)V"⟩
abbrev cX4_isMember : ByteArray := prog_6_method_24_code
def yX4_isMember : MethodName := ⟨RX4, "isMember", "(III)Z"⟩
abbrev cX4_isOperator : ByteArray := prog_6_method_25_code
def yX4_isOperator : MethodName := ⟨RX4, "isOperator", "(III)Z"⟩
abbrev cX4_addMember : ByteArray := prog_6_method_26_code
def yX4_addMember : MethodName := ⟨RX4, "addMember", "(III)V"⟩
abbrev cX4_addOperator : ByteArray := prog_6_method_27_code
def yX4_addOperator : MethodName := ⟨RX4, "addOperator", "(III)V"⟩
abbrev cX4_removeMember : ByteArray := prog_6_method_28_code
def yX4_removeMember : MethodName := ⟨RX4, "removeMember", "(III)V"⟩
abbrev cX4_membersIn : ByteArray := prog_6_method_29_code
def yX4_membersIn : MethodName := ⟨RX4, "membersIn", "(II)I"⟩
abbrev cX4_operatorsIn : ByteArray := prog_6_method_30_code
def yX4_operatorsIn : MethodName := ⟨RX4, "operatorsIn", "(II)I"⟩
abbrev cX4_unionOf : ByteArray := prog_6_method_31_code
def yX4_unionOf : MethodName := ⟨RX4, "unionOf", "([III)I"⟩
abbrev cX4_setOperators : ByteArray := prog_6_method_32_code
def yX4_setOperators : MethodName := ⟨RX4, "setOperators", "(III)V"⟩
abbrev cX4_hasChannel : ByteArray := prog_6_method_33_code
def yX4_hasChannel : MethodName := ⟨RX4, "hasChannel", "(II)Z"⟩
abbrev cX4_timeOfChannel : ByteArray := prog_6_method_34_code
def yX4_timeOfChannel : MethodName := ⟨RX4, "timeOfChannel", "(II)I"⟩
abbrev cX4_modesOfChannel : ByteArray := prog_6_method_35_code
def yX4_modesOfChannel : MethodName := ⟨RX4, "modesOfChannel", "(II)I"⟩
abbrev cX4_describeChannel : ByteArray := prog_6_method_36_code
def yX4_describeChannel : MethodName := ⟨RX4, "describeChannel", "(IIII)V"⟩
abbrev cX4_countMessages : ByteArray := prog_6_method_37_code
def yX4_countMessages : MethodName := ⟨RX4, "countMessages", "(I)I"⟩
def RX5 : String := "RelayNetwork"
def TX5 : u_T := fun k => match k with
  | 0 => ("RelayNetwork", "state", "LRelayNetwork$State;", true)
  | 1 => ("RelayNetwork", "history", "LRelayNetwork$History;", true)
  | 2 => ("RelayNetwork", "text", "LRelayNetwork$ModeText;", true)
  | _ => ("RelayNetwork", "plans", "LRelayNetwork$PlanSearch;", true)
def tyX5 : Nat → FieldType := fun k => match k with
  | 0 => .object "RelayNetwork$State"
  | 1 => .object "RelayNetwork$History"
  | 2 => .object "RelayNetwork$ModeText"
  | _ => .object "RelayNetwork$PlanSearch"
theorem nmX5 : ∀ a, a < 4 → ∀ b, b < 4 → a ≠ b → (TX5 a).2.1 ≠ (TX5 b).2.1 := by decide +kernel
theorem tyX5_ok : ∀ k, k < 4 → parseFieldDescriptor (TX5 k).2.2.1 = some (tyX5 k) := by decide +kernel
abbrev cX5_init : ByteArray := prog_1_method_1_code
def yX5_init : MethodName := ⟨RX5, "<init>", "()V"⟩
abbrev cX5_createServers : ByteArray := prog_1_method_2_code
def yX5_createServers : MethodName := ⟨RX5, "createServers", "(I)I"⟩
abbrev cX5_connect : ByteArray := prog_1_method_3_code
def yX5_connect : MethodName := ⟨RX5, "connect", "(II)I"⟩
abbrev cX5_disconnect : ByteArray := prog_1_method_4_code
def yX5_disconnect : MethodName := ⟨RX5, "disconnect", "(II)I"⟩
abbrev cX5_advance : ByteArray := prog_1_method_5_code
def yX5_advance : MethodName := ⟨RX5, "advance", "(I)I"⟩
abbrev cX5_time : ByteArray := prog_1_method_6_code
def yX5_time : MethodName := ⟨RX5, "time", "()I"⟩
abbrev cX5_hops : ByteArray := prog_1_method_7_code
def yX5_hops : MethodName := ⟨RX5, "hops", "(II)I"⟩
abbrev cX5_signOn : ByteArray := prog_1_method_8_code
def yX5_signOn : MethodName := ⟨RX5, "signOn", "(II)I"⟩
abbrev cX5_signOff : ByteArray := prog_1_method_9_code
def yX5_signOff : MethodName := ⟨RX5, "signOff", "(II)I"⟩
abbrev cX5_changeNick : ByteArray := prog_1_method_10_code
def yX5_changeNick : MethodName := ⟨RX5, "changeNick", "(III)I"⟩
abbrev cX5_homeServer : ByteArray := prog_1_method_11_code
def yX5_homeServer : MethodName := ⟨RX5, "homeServer", "(II)I"⟩
abbrev cX5_userTimestamp : ByteArray := prog_1_method_12_code
def yX5_userTimestamp : MethodName := ⟨RX5, "userTimestamp", "(II)I"⟩
abbrev cX5_visibleUsers : ByteArray := prog_1_method_13_code
def yX5_visibleUsers : MethodName := ⟨RX5, "visibleUsers", "(I)I"⟩
abbrev cX5_join : ByteArray := prog_1_method_14_code
def yX5_join : MethodName := ⟨RX5, "join", "(III)I"⟩
abbrev cX5_part : ByteArray := prog_1_method_15_code
def yX5_part : MethodName := ⟨RX5, "part", "(III)I"⟩
abbrev cX5_kick : ByteArray := prog_1_method_16_code
def yX5_kick : MethodName := ⟨RX5, "kick", "(IIII)I"⟩
abbrev cX5_leaveChannel : ByteArray := prog_1_method_17_code
def yX5_leaveChannel : MethodName := ⟨RX5, "leaveChannel", "(III)I"⟩
abbrev cX5_appendCharacter : ByteArray := prog_1_method_18_code
def yX5_appendCharacter : MethodName := ⟨RX5, "appendCharacter", "(I)I"⟩
abbrev cX5_clearText : ByteArray := prog_1_method_19_code
def yX5_clearText : MethodName := ⟨RX5, "clearText", "()I"⟩
abbrev cX5_applyModes : ByteArray := prog_1_method_20_code
def yX5_applyModes : MethodName := ⟨RX5, "applyModes", "(III)I"⟩
abbrev cX5_members : ByteArray := prog_1_method_21_code
def yX5_members : MethodName := ⟨RX5, "members", "(II)I"⟩
abbrev cX5_operators : ByteArray := prog_1_method_22_code
def yX5_operators : MethodName := ⟨RX5, "operators", "(II)I"⟩
abbrev cX5_modes : ByteArray := prog_1_method_23_code
def yX5_modes : MethodName := ⟨RX5, "modes", "(II)I"⟩
abbrev cX5_channelTimestamp : ByteArray := prog_1_method_24_code
def yX5_channelTimestamp : MethodName := ⟨RX5, "channelTimestamp", "(II)I"⟩
abbrev cX5_lastDeprived : ByteArray := prog_1_method_25_code
def yX5_lastDeprived : MethodName := ⟨RX5, "lastDeprived", "()I"⟩
abbrev cX5_lastDropped : ByteArray := prog_1_method_26_code
def yX5_lastDropped : MethodName := ⟨RX5, "lastDropped", "()I"⟩
abbrev cX5_burstSize : ByteArray := prog_1_method_27_code
def yX5_burstSize : MethodName := ⟨RX5, "burstSize", "(II)I"⟩
abbrev cX5_killsIfConnected : ByteArray := prog_1_method_28_code
def yX5_killsIfConnected : MethodName := ⟨RX5, "killsIfConnected", "(II)I"⟩
abbrev cX5_lostIfDisconnected : ByteArray := prog_1_method_29_code
def yX5_lostIfDisconnected : MethodName := ⟨RX5, "lostIfDisconnected", "(II)I"⟩
abbrev cX5_fewestKills : ByteArray := prog_1_method_30_code
def yX5_fewestKills : MethodName := ⟨RX5, "fewestKills", "()I"⟩
abbrev cX5_bestFirstLink : ByteArray := prog_1_method_31_code
def yX5_bestFirstLink : MethodName := ⟨RX5, "bestFirstLink", "()I"⟩
abbrev cX5_undo : ByteArray := prog_1_method_32_code
def yX5_undo : MethodName := ⟨RX5, "undo", "()I"⟩
abbrev cX5_isNick : ByteArray := prog_1_method_33_code
def yX5_isNick : MethodName := ⟨RX5, "isNick", "(I)Z"⟩
abbrev cX5_isChannel : ByteArray := prog_1_method_34_code
def yX5_isChannel : MethodName := ⟨RX5, "isChannel", "(I)Z"⟩
abbrev cX5_hasBit : ByteArray := prog_1_method_35_code
def yX5_hasBit : MethodName := ⟨RX5, "hasBit", "(II)Z"⟩
abbrev cX5_withBit : ByteArray := prog_1_method_36_code
def yX5_withBit : MethodName := ⟨RX5, "withBit", "(IIZ)I"⟩
def RX6 : String := "RelayNetworkModel"
def TX6 : u_T := fun k => match k with
  | 0 => ("RelayNetworkModel", "now", "[I", true)
  | 1 => ("RelayNetworkModel", "history", "[I", true)
  | 2 => ("RelayNetworkModel", "undoable", "I", false)
  | 3 => ("RelayNetworkModel", "text", "[I", true)
  | 4 => ("RelayNetworkModel", "length", "I", false)
  | 5 => ("RelayNetworkModel", "items", "I", false)
  | 6 => ("RelayNetworkModel", "groups", "[I", true)
  | 7 => ("RelayNetworkModel", "representatives", "[I", true)
  | 8 => ("RelayNetworkModel", "firstOf", "[I", true)
  | 9 => ("RelayNetworkModel", "secondOf", "[I", true)
  | 10 => ("RelayNetworkModel", "killsAt", "[I", true)
  | 11 => ("RelayNetworkModel", "leastKills", "I", false)
  | _ => ("RelayNetworkModel", "bestPair", "I", false)
def tyX6 : Nat → FieldType := fun k => match k with
  | 0 => .array .int
  | 1 => .array .int
  | 2 => .int
  | 3 => .array .int
  | 4 => .int
  | 5 => .int
  | 6 => .array .int
  | 7 => .array .int
  | 8 => .array .int
  | 9 => .array .int
  | 10 => .array .int
  | 11 => .int
  | _ => .int
theorem nmX6 : ∀ a, a < 13 → ∀ b, b < 13 → a ≠ b → (TX6 a).2.1 ≠ (TX6 b).2.1 := by decide +kernel
theorem tyX6_ok : ∀ k, k < 13 → parseFieldDescriptor (TX6 k).2.2.1 = some (tyX6 k) := by decide +kernel
abbrev cX6_init : ByteArray := prog_8_method_1_code
def yX6_init : MethodName := ⟨RX6, "<init>", "()V"⟩
abbrev cX6_in : ByteArray := prog_8_method_2_code
def yX6_in : MethodName := ⟨RX6, "in", "(III)Z"⟩
abbrev cX6_has : ByteArray := prog_8_method_3_code
def yX6_has : MethodName := ⟨RX6, "has", "(II)Z"⟩
abbrev cX6_bitCount : ByteArray := prog_8_method_4_code
def yX6_bitCount : MethodName := ⟨RX6, "bitCount", "(I)I"⟩
abbrev cX6_reset : ByteArray := prog_8_method_5_code
def yX6_reset : MethodName := ⟨RX6, "reset", "(I)V"⟩
abbrev cX6_save : ByteArray := prog_8_method_6_code
def yX6_save : MethodName := ⟨RX6, "save", "()V"⟩
abbrev cX6_undo : ByteArray := prog_8_method_7_code
def yX6_undo : MethodName := ⟨RX6, "undo", "()I"⟩
abbrev cX6_isServer : ByteArray := prog_8_method_8_code
def yX6_isServer : MethodName := ⟨RX6, "isServer", "(I)Z"⟩
abbrev cX6_areServers : ByteArray := prog_8_method_9_code
def yX6_areServers : MethodName := ⟨RX6, "areServers", "(II)Z"⟩
abbrev cX6_isNick : ByteArray := prog_8_method_10_code
def yX6_isNick : MethodName := ⟨RX6, "isNick", "(I)Z"⟩
abbrev cX6_isChannel : ByteArray := prog_8_method_11_code
def yX6_isChannel : MethodName := ⟨RX6, "isChannel", "(I)Z"⟩
abbrev cX6_network : ByteArray := prog_8_method_12_code
def yX6_network : MethodName := ⟨RX6, "network", "(I)I"⟩
abbrev cX6_areConnected : ByteArray := prog_8_method_13_code
def yX6_areConnected : MethodName := ⟨RX6, "areConnected", "(II)Z"⟩
abbrev cX6_areLinked : ByteArray := prog_8_method_14_code
def yX6_areLinked : MethodName := ⟨RX6, "areLinked", "(II)Z"⟩
abbrev cX6_setLink : ByteArray := prog_8_method_15_code
def yX6_setLink : MethodName := ⟨RX6, "setLink", "(IIZ)V"⟩
abbrev cX6_userCell : ByteArray := prog_8_method_16_code
def yX6_userCell : MethodName := ⟨RX6, "userCell", "(II)I"⟩
abbrev cX6_isUser : ByteArray := prog_8_method_17_code
def yX6_isUser : MethodName := ⟨RX6, "isUser", "(II)Z"⟩
abbrev cX6_homeIn : ByteArray := prog_8_method_18_code
def yX6_homeIn : MethodName := ⟨RX6, "homeIn", "(II)I"⟩
abbrev cX6_nicksIn : ByteArray := prog_8_method_19_code
def yX6_nicksIn : MethodName := ⟨RX6, "nicksIn", "(III)I"⟩
abbrev cX6_membersIn : ByteArray := prog_8_method_20_code
def yX6_membersIn : MethodName := ⟨RX6, "membersIn", "(II)I"⟩
abbrev cX6_removeUser : ByteArray := prog_8_method_21_code
def yX6_removeUser : MethodName := ⟨RX6, "removeUser", "(II)V"⟩
abbrev cX6_createServers : ByteArray := prog_8_method_22_code
def yX6_createServers : MethodName := ⟨RX6, "createServers", "(I)I"⟩
abbrev cX6_setChannel : ByteArray := prog_8_method_23_code
def yX6_setChannel : MethodName := ⟨RX6, "setChannel", "(IIII)V"⟩
abbrev cX6_mergeNicks : ByteArray := prog_8_method_24_code
def yX6_mergeNicks : MethodName := ⟨RX6, "mergeNicks", "(II)I"⟩
abbrev cX6_depriveAll : ByteArray := prog_8_method_25_code
def yX6_depriveAll : MethodName := ⟨RX6, "depriveAll", "(II)V"⟩
abbrev cX6_mergeChannel : ByteArray := prog_8_method_26_code
def yX6_mergeChannel : MethodName := ⟨RX6, "mergeChannel", "(III)V"⟩
abbrev cX6_connect : ByteArray := prog_8_method_27_code
def yX6_connect : MethodName := ⟨RX6, "connect", "(II)I"⟩
abbrev cX6_disconnect : ByteArray := prog_8_method_28_code
def yX6_disconnect : MethodName := ⟨RX6, "disconnect", "(II)I"⟩
abbrev cX6_advance : ByteArray := prog_8_method_29_code
def yX6_advance : MethodName := ⟨RX6, "advance", "(I)I"⟩
abbrev cX6_time : ByteArray := prog_8_method_30_code
def yX6_time : MethodName := ⟨RX6, "time", "()I"⟩
abbrev cX6_hops : ByteArray := prog_8_method_31_code
def yX6_hops : MethodName := ⟨RX6, "hops", "(II)I"⟩
abbrev cX6_isPlace : ByteArray := prog_8_method_32_code
def yX6_isPlace : MethodName := ⟨RX6, "isPlace", "(II)Z"⟩
abbrev cX6_signOn : ByteArray := prog_8_method_33_code
def yX6_signOn : MethodName := ⟨RX6, "signOn", "(II)I"⟩
abbrev cX6_signOff : ByteArray := prog_8_method_34_code
def yX6_signOff : MethodName := ⟨RX6, "signOff", "(II)I"⟩
abbrev cX6_changeNick : ByteArray := prog_8_method_35_code
def yX6_changeNick : MethodName := ⟨RX6, "changeNick", "(III)I"⟩
abbrev cX6_homeServer : ByteArray := prog_8_method_36_code
def yX6_homeServer : MethodName := ⟨RX6, "homeServer", "(II)I"⟩
abbrev cX6_userTimestamp : ByteArray := prog_8_method_37_code
def yX6_userTimestamp : MethodName := ⟨RX6, "userTimestamp", "(II)I"⟩
abbrev cX6_visibleUsers : ByteArray := prog_8_method_38_code
def yX6_visibleUsers : MethodName := ⟨RX6, "visibleUsers", "(I)I"⟩
abbrev cX6_isMember : ByteArray := prog_8_method_39_code
def yX6_isMember : MethodName := ⟨RX6, "isMember", "(III)Z"⟩
abbrev cX6_isOperator : ByteArray := prog_8_method_40_code
def yX6_isOperator : MethodName := ⟨RX6, "isOperator", "(III)Z"⟩
abbrev cX6_memberCount : ByteArray := prog_8_method_41_code
def yX6_memberCount : MethodName := ⟨RX6, "memberCount", "(II)I"⟩
abbrev cX6_join : ByteArray := prog_8_method_42_code
def yX6_join : MethodName := ⟨RX6, "join", "(III)I"⟩
abbrev cX6_leave : ByteArray := prog_8_method_43_code
def yX6_leave : MethodName := ⟨RX6, "leave", "(III)V"⟩
abbrev cX6_part : ByteArray := prog_8_method_44_code
def yX6_part : MethodName := ⟨RX6, "part", "(III)I"⟩
abbrev cX6_kick : ByteArray := prog_8_method_45_code
def yX6_kick : MethodName := ⟨RX6, "kick", "(IIII)I"⟩
abbrev cX6_appendCharacter : ByteArray := prog_8_method_46_code
def yX6_appendCharacter : MethodName := ⟨RX6, "appendCharacter", "(I)I"⟩
abbrev cX6_clearText : ByteArray := prog_8_method_47_code
def yX6_clearText : MethodName := ⟨RX6, "clearText", "()I"⟩
abbrev cX6_modeOf : ByteArray := prog_8_method_48_code
def yX6_modeOf : MethodName := ⟨RX6, "modeOf", "(I)I"⟩
abbrev cX6_isSign : ByteArray := prog_8_method_49_code
def yX6_isSign : MethodName := ⟨RX6, "isSign", "(I)Z"⟩
abbrev cX6_check : ByteArray := prog_8_method_50_code
def yX6_check : MethodName := ⟨RX6, "check", "(I)I"⟩
abbrev cX6_setOperator : ByteArray := prog_8_method_51_code
def yX6_setOperator : MethodName := ⟨RX6, "setOperator", "(IIIZ)V"⟩
abbrev cX6_applyText : ByteArray := prog_8_method_52_code
def yX6_applyText : MethodName := ⟨RX6, "applyText", "(II)V"⟩
abbrev cX6_applyModes : ByteArray := prog_8_method_53_code
def yX6_applyModes : MethodName := ⟨RX6, "applyModes", "(III)I"⟩
abbrev cX6_members : ByteArray := prog_8_method_54_code
def yX6_members : MethodName := ⟨RX6, "members", "(II)I"⟩
abbrev cX6_operators : ByteArray := prog_8_method_55_code
def yX6_operators : MethodName := ⟨RX6, "operators", "(II)I"⟩
abbrev cX6_valueOf : ByteArray := prog_8_method_56_code
def yX6_valueOf : MethodName := ⟨RX6, "valueOf", "(III)I"⟩
abbrev cX6_modes : ByteArray := prog_8_method_57_code
def yX6_modes : MethodName := ⟨RX6, "modes", "(II)I"⟩
abbrev cX6_channelTimestamp : ByteArray := prog_8_method_58_code
def yX6_channelTimestamp : MethodName := ⟨RX6, "channelTimestamp", "(II)I"⟩
abbrev cX6_lastDeprived : ByteArray := prog_8_method_59_code
def yX6_lastDeprived : MethodName := ⟨RX6, "lastDeprived", "()I"⟩
abbrev cX6_lastDropped : ByteArray := prog_8_method_60_code
def yX6_lastDropped : MethodName := ⟨RX6, "lastDropped", "()I"⟩
abbrev cX6_burstOf : ByteArray := prog_8_method_61_code
def yX6_burstOf : MethodName := ⟨RX6, "burstOf", "(I)I"⟩
abbrev cX6_forecastError : ByteArray := prog_8_method_62_code
def yX6_forecastError : MethodName := ⟨RX6, "forecastError", "(II)I"⟩
abbrev cX6_burstSize : ByteArray := prog_8_method_63_code
def yX6_burstSize : MethodName := ⟨RX6, "burstSize", "(II)I"⟩
abbrev cX6_killsIfConnected : ByteArray := prog_8_method_64_code
def yX6_killsIfConnected : MethodName := ⟨RX6, "killsIfConnected", "(II)I"⟩
abbrev cX6_usersOutside : ByteArray := prog_8_method_65_code
def yX6_usersOutside : MethodName := ⟨RX6, "usersOutside", "(I)I"⟩
abbrev cX6_lostIfDisconnected : ByteArray := prog_8_method_66_code
def yX6_lostIfDisconnected : MethodName := ⟨RX6, "lostIfDisconnected", "(II)I"⟩
abbrev cX6_groupCell : ByteArray := prog_8_method_67_code
def yX6_groupCell : MethodName := ⟨RX6, "groupCell", "(II)I"⟩
abbrev cX6_readGroup : ByteArray := prog_8_method_68_code
def yX6_readGroup : MethodName := ⟨RX6, "readGroup", "(II)V"⟩
abbrev cX6_mergeGroups : ByteArray := prog_8_method_69_code
def yX6_mergeGroups : MethodName := ⟨RX6, "mergeGroups", "(III)I"⟩
abbrev cX6_readGroups : ByteArray := prog_8_method_70_code
def yX6_readGroups : MethodName := ⟨RX6, "readGroups", "()I"⟩
abbrev cX6_descend : ByteArray := prog_8_method_71_code
def yX6_descend : MethodName := ⟨RX6, "descend", "(II)V"⟩
abbrev cX6_nextPair : ByteArray := prog_8_method_72_code
def yX6_nextPair : MethodName := ⟨RX6, "nextPair", "(II)Z"⟩
abbrev cX6_searchPlans : ByteArray := prog_8_method_73_code
def yX6_searchPlans : MethodName := ⟨RX6, "searchPlans", "()V"⟩
abbrev cX6_fewestKills : ByteArray := prog_8_method_74_code
def yX6_fewestKills : MethodName := ⟨RX6, "fewestKills", "()I"⟩
abbrev cX6_bestFirstLink : ByteArray := prog_8_method_75_code
def yX6_bestFirstLink : MethodName := ⟨RX6, "bestFirstLink", "()I"⟩
def RJx145de : String := "java/io/Serializable"
def RJx9f9b0 : String := "java/lang/CharSequence"
def RJ11 : String := "java/lang/Character"
abbrev cJ11_isValidCodePoint_9a6ad : ByteArray := prog_9_method_11_code
def yJ11_isValidCodePoint_9a6ad : MethodName := ⟨RJ11, "isValidCodePoint", "(I)Z"⟩
abbrev cJ11_highSurrogate_5068e : ByteArray := prog_9_method_28_code
def yJ11_highSurrogate_5068e : MethodName := ⟨RJ11, "highSurrogate", "(I)C"⟩
abbrev cJ11_lowSurrogate_5068e : ByteArray := prog_9_method_29_code
def yJ11_lowSurrogate_5068e : MethodName := ⟨RJ11, "lowSurrogate", "(I)C"⟩
def RJxb160c : String := "java/lang/Comparable"
def RJ6 : String := "java/lang/Integer"
abbrev cJ6_bitCount_0f7a4 : ByteArray := prog_10_method_49_code
def yJ6_bitCount_0f7a4 : MethodName := ⟨RJ6, "bitCount", "(I)I"⟩
def RJ9 : String := "java/lang/Math"
abbrev cJ9_max_7cf53 : ByteArray := prog_11_method_65_code
def yJ9_max_7cf53 : MethodName := ⟨RJ9, "max", "(II)I"⟩
abbrev cJ9_min_7cf53 : ByteArray := prog_11_method_69_code
def yJ9_min_7cf53 : MethodName := ⟨RJ9, "min", "(II)I"⟩
def RJ0 : String := "java/lang/String"
abbrev cJ0_length_8abf5 : ByteArray := prog_12_method_54_code
def yJ0_length_8abf5 : MethodName := ⟨RJ0, "length", "()I"⟩
abbrev cJ0_indexOf_0f7a4 : ByteArray := prog_12_method_79_code
def yJ0_indexOf_0f7a4 : MethodName := ⟨RJ0, "indexOf", "(I)I"⟩
abbrev cJ0_indexOf_7cf53 : ByteArray := prog_12_method_80_code
def yJ0_indexOf_7cf53 : MethodName := ⟨RJ0, "indexOf", "(II)I"⟩
abbrev cJ0_coder_7d493 : ByteArray := prog_12_method_152_code
def yJ0_coder_7d493 : MethodName := ⟨RJ0, "coder", "()B"⟩
abbrev cJ0_isLatin1_aae02 : ByteArray := prog_12_method_154_code
def yJ0_isLatin1_aae02 : MethodName := ⟨RJ0, "isLatin1", "()Z"⟩
abbrev cJ0_checkBoundsBeginEnd_23922 : ByteArray := prog_12_method_158_code
def yJ0_checkBoundsBeginEnd_23922 : MethodName := ⟨RJ0, "checkBoundsBeginEnd", "(III)V"⟩
def RJ1 : String := "java/lang/StringLatin1"
abbrev cJ1_canEncode_9a6ad : ByteArray := prog_13_method_4_code
def yJ1_canEncode_9a6ad : MethodName := ⟨RJ1, "canEncode", "(I)Z"⟩
abbrev cJ1_indexOf_4cfef : ByteArray := prog_13_method_22_code
def yJ1_indexOf_4cfef : MethodName := ⟨RJ1, "indexOf", "([BIII)I"⟩
abbrev cJ1_indexOfChar_4cfef : ByteArray := prog_13_method_23_code
def yJ1_indexOfChar_4cfef : MethodName := ⟨RJ1, "indexOfChar", "([BIII)I"⟩
def RJ2 : String := "java/lang/StringUTF16"
abbrev cJ2_getChar_3b067 : ByteArray := prog_14_method_5_code
def yJ2_getChar_3b067 : MethodName := ⟨RJ2, "getChar", "([BI)C"⟩
abbrev cJ2_length_9d52b : ByteArray := prog_14_method_6_code
def yJ2_length_9d52b : MethodName := ⟨RJ2, "length", "([B)I"⟩
abbrev cJ2_indexOf_4cfef : ByteArray := prog_14_method_40_code
def yJ2_indexOf_4cfef : MethodName := ⟨RJ2, "indexOf", "([BIII)I"⟩
abbrev cJ2_indexOfChar_4cfef : ByteArray := prog_14_method_47_code
def yJ2_indexOfChar_4cfef : MethodName := ⟨RJ2, "indexOfChar", "([BIII)I"⟩
abbrev cJ2_indexOfCharUnsafe_4cfef : ByteArray := prog_14_method_48_code
def yJ2_indexOfCharUnsafe_4cfef : MethodName := ⟨RJ2, "indexOfCharUnsafe", "([BIII)I"⟩
abbrev cJ2_indexOfSupplementary_4cfef : ByteArray := prog_14_method_49_code
def yJ2_indexOfSupplementary_4cfef : MethodName := ⟨RJ2, "indexOfSupplementary", "([BIII)I"⟩
abbrev cJ2_checkBoundsBeginEnd_d044e : ByteArray := prog_14_method_93_code
def yJ2_checkBoundsBeginEnd_d044e : MethodName := ⟨RJ2, "checkBoundsBeginEnd", "(II[B)V"⟩
def RJ10 : String := "java/lang/System"
def RJxfd54e : String := "java/lang/constant/Constable"
def RJx3cf43 : String := "java/lang/constant/ConstantDesc"
def RJ7 : String := "java/util/Arrays"
abbrev cJ7_fill_53178 : ByteArray := prog_16_method_103_code
def yJ7_fill_53178 : MethodName := ⟨RJ7, "fill", "([II)V"⟩
def RJ3 : String := "jdk/internal/util/Preconditions"
abbrev cJ3_checkFromToIndex_8c36e : ByteArray := prog_17_method_12_code
def yJ3_checkFromToIndex_8c36e : MethodName := ⟨RJ3, "checkFromToIndex", "(IIILjava/util/function/BiFunction;)I"⟩
def RL : String := "RelayNetworkLaw"
abbrev cL_law : ByteArray := code
abbrev vwCl : List vw_C := [(RX0, TX0, 3), (RX2, TX2, 2), (RX3, TX3, 5), (RX4, TX4, 10), (RX5, TX5, 4), (RX6, TX6, 13)]
end
section
theorem dX0_init_0 : decode cX0_init 0 = .ok (.aload_n 0, 1) := by decide +kernel
theorem dX0_init_1 : decode cX0_init 1 = .ok (.invokespecial 3, 3) := by decide +kernel
theorem dX0_init_4 : decode cX0_init 4 = .ok (.aload_n 0, 1) := by decide +kernel
theorem dX0_init_5 : decode cX0_init 5 = .ok (.bipush 8, 2) := by decide +kernel
theorem dX0_init_7 : decode cX0_init 7 = .ok (.anewarray 9, 3) := by decide +kernel
theorem dX0_init_10 : decode cX0_init 10 = .ok (.putfield 11, 3) := by decide +kernel
theorem dX0_init_13 : decode cX0_init 13 = .ok (.aload_n 0, 1) := by decide +kernel
theorem dX0_init_14 : decode cX0_init 14 = .ok (.iconst 0, 1) := by decide +kernel
theorem dX0_init_15 : decode cX0_init 15 = .ok (.putfield 17, 3) := by decide +kernel
theorem dX0_init_18 : decode cX0_init 18 = .ok (.aload_n 0, 1) := by decide +kernel
theorem dX0_init_19 : decode cX0_init 19 = .ok (.iconst 0, 1) := by decide +kernel
theorem dX0_init_20 : decode cX0_init 20 = .ok (.putfield 21, 3) := by decide +kernel
theorem dX0_init_23 : decode cX0_init 23 = .ok (.iconst 0, 1) := by decide +kernel
theorem dX0_init_24 : decode cX0_init 24 = .ok (.istore_n 1, 1) := by decide +kernel
theorem dX0_init_25 : decode cX0_init 25 = .ok (.iload_n 1, 1) := by decide +kernel
theorem dX0_init_26 : decode cX0_init 26 = .ok (.bipush 8, 2) := by decide +kernel
theorem dX0_init_28 : decode cX0_init 28 = .ok (.if_icmp .ge 22, 3) := by decide +kernel
theorem dX0_init_31 : decode cX0_init 31 = .ok (.aload_n 0, 1) := by decide +kernel
theorem dX0_init_32 : decode cX0_init 32 = .ok (.getfield 11, 3) := by decide +kernel
theorem dX0_init_35 : decode cX0_init 35 = .ok (.iload_n 1, 1) := by decide +kernel
theorem dX0_init_36 : decode cX0_init 36 = .ok (.new 9, 3) := by decide +kernel
theorem dX0_init_39 : decode cX0_init 39 = .ok (.dup, 1) := by decide +kernel
theorem dX0_init_40 : decode cX0_init 40 = .ok (.invokespecial 24, 3) := by decide +kernel
theorem dX0_init_43 : decode cX0_init 43 = .ok (.aastore, 1) := by decide +kernel
theorem dX0_init_44 : decode cX0_init 44 = .ok (.iinc 1 1, 3) := by decide +kernel
theorem dX0_init_47 : decode cX0_init 47 = .ok (.goto (-22), 3) := by decide +kernel
theorem dX0_init_50 : decode cX0_init 50 = .ok (.return_, 1) := by decide +kernel
theorem dX0_keep_0 : decode cX0_keep 0 = .ok (.aload_n 0, 1) := by decide +kernel
theorem dX0_keep_1 : decode cX0_keep 1 = .ok (.getfield 11, 3) := by decide +kernel
theorem dX0_keep_4 : decode cX0_keep 4 = .ok (.aload_n 0, 1) := by decide +kernel
theorem dX0_keep_5 : decode cX0_keep 5 = .ok (.getfield 17, 3) := by decide +kernel
theorem dX0_keep_8 : decode cX0_keep 8 = .ok (.aaload, 1) := by decide +kernel
theorem dX0_keep_9 : decode cX0_keep 9 = .ok (.astore_n 2, 1) := by decide +kernel
theorem dX0_keep_10 : decode cX0_keep 10 = .ok (.aload_n 2, 1) := by decide +kernel
theorem dX0_keep_11 : decode cX0_keep 11 = .ok (.ifnull 8, 3) := by decide +kernel
theorem dX0_keep_14 : decode cX0_keep 14 = .ok (.aload_n 2, 1) := by decide +kernel
theorem dX0_keep_15 : decode cX0_keep 15 = .ok (.aload_n 1, 1) := by decide +kernel
theorem dX0_keep_16 : decode cX0_keep 16 = .ok (.invokevirtual 25, 3) := by decide +kernel
theorem dX0_keep_19 : decode cX0_keep 19 = .ok (.aload_n 0, 1) := by decide +kernel
theorem dX0_keep_20 : decode cX0_keep 20 = .ok (.aload_n 0, 1) := by decide +kernel
theorem dX0_keep_21 : decode cX0_keep 21 = .ok (.getfield 17, 3) := by decide +kernel
theorem dX0_keep_24 : decode cX0_keep 24 = .ok (.bipush 7, 2) := by decide +kernel
theorem dX0_keep_26 : decode cX0_keep 26 = .ok (.if_icmp .ne 7, 3) := by decide +kernel
theorem dX0_keep_29 : decode cX0_keep 29 = .ok (.iconst 0, 1) := by decide +kernel
theorem dX0_keep_30 : decode cX0_keep 30 = .ok (.goto 9, 3) := by decide +kernel
theorem dX0_keep_33 : decode cX0_keep 33 = .ok (.aload_n 0, 1) := by decide +kernel
theorem dX0_keep_34 : decode cX0_keep 34 = .ok (.getfield 17, 3) := by decide +kernel
theorem dX0_keep_37 : decode cX0_keep 37 = .ok (.iconst 1, 1) := by decide +kernel
theorem dX0_keep_38 : decode cX0_keep 38 = .ok (.iadd, 1) := by decide +kernel
theorem dX0_keep_39 : decode cX0_keep 39 = .ok (.putfield 17, 3) := by decide +kernel
theorem dX0_keep_42 : decode cX0_keep 42 = .ok (.aload_n 0, 1) := by decide +kernel
theorem dX0_keep_43 : decode cX0_keep 43 = .ok (.aload_n 0, 1) := by decide +kernel
theorem dX0_keep_44 : decode cX0_keep 44 = .ok (.getfield 21, 3) := by decide +kernel
theorem dX0_keep_47 : decode cX0_keep 47 = .ok (.iconst 1, 1) := by decide +kernel
theorem dX0_keep_48 : decode cX0_keep 48 = .ok (.iadd, 1) := by decide +kernel
theorem dX0_keep_49 : decode cX0_keep 49 = .ok (.bipush 8, 2) := by decide +kernel
theorem dX0_keep_51 : decode cX0_keep 51 = .ok (.invokestatic 29, 3) := by decide +kernel
theorem dX0_keep_54 : decode cX0_keep 54 = .ok (.putfield 21, 3) := by decide +kernel
theorem dX0_keep_57 : decode cX0_keep 57 = .ok (.return_, 1) := by decide +kernel
theorem dX0_takeBack_0 : decode cX0_takeBack 0 = .ok (.aload_n 0, 1) := by decide +kernel
theorem dX0_takeBack_1 : decode cX0_takeBack 1 = .ok (.aload_n 0, 1) := by decide +kernel
theorem dX0_takeBack_2 : decode cX0_takeBack 2 = .ok (.getfield 17, 3) := by decide +kernel
theorem dX0_takeBack_5 : decode cX0_takeBack 5 = .ok (.ifCond .ne 8, 3) := by decide +kernel
theorem dX0_takeBack_8 : decode cX0_takeBack 8 = .ok (.bipush 7, 2) := by decide +kernel
theorem dX0_takeBack_10 : decode cX0_takeBack 10 = .ok (.goto 9, 3) := by decide +kernel
theorem dX0_takeBack_13 : decode cX0_takeBack 13 = .ok (.aload_n 0, 1) := by decide +kernel
theorem dX0_takeBack_14 : decode cX0_takeBack 14 = .ok (.getfield 17, 3) := by decide +kernel
theorem dX0_takeBack_17 : decode cX0_takeBack 17 = .ok (.iconst 1, 1) := by decide +kernel
theorem dX0_takeBack_18 : decode cX0_takeBack 18 = .ok (.isub, 1) := by decide +kernel
theorem dX0_takeBack_19 : decode cX0_takeBack 19 = .ok (.putfield 17, 3) := by decide +kernel
theorem dX0_takeBack_22 : decode cX0_takeBack 22 = .ok (.aload_n 0, 1) := by decide +kernel
theorem dX0_takeBack_23 : decode cX0_takeBack 23 = .ok (.aload_n 0, 1) := by decide +kernel
theorem dX0_takeBack_24 : decode cX0_takeBack 24 = .ok (.getfield 21, 3) := by decide +kernel
theorem dX0_takeBack_27 : decode cX0_takeBack 27 = .ok (.iconst 1, 1) := by decide +kernel
theorem dX0_takeBack_28 : decode cX0_takeBack 28 = .ok (.isub, 1) := by decide +kernel
theorem dX0_takeBack_29 : decode cX0_takeBack 29 = .ok (.iconst 0, 1) := by decide +kernel
theorem dX0_takeBack_30 : decode cX0_takeBack 30 = .ok (.invokestatic 35, 3) := by decide +kernel
theorem dX0_takeBack_33 : decode cX0_takeBack 33 = .ok (.putfield 21, 3) := by decide +kernel
theorem dX0_takeBack_36 : decode cX0_takeBack 36 = .ok (.aload_n 0, 1) := by decide +kernel
theorem dX0_takeBack_37 : decode cX0_takeBack 37 = .ok (.getfield 11, 3) := by decide +kernel
theorem dX0_takeBack_40 : decode cX0_takeBack 40 = .ok (.aload_n 0, 1) := by decide +kernel
theorem dX0_takeBack_41 : decode cX0_takeBack 41 = .ok (.getfield 17, 3) := by decide +kernel
theorem dX0_takeBack_44 : decode cX0_takeBack 44 = .ok (.aaload, 1) := by decide +kernel
theorem dX0_takeBack_45 : decode cX0_takeBack 45 = .ok (.astore_n 2, 1) := by decide +kernel
theorem dX0_takeBack_46 : decode cX0_takeBack 46 = .ok (.aload_n 2, 1) := by decide +kernel
theorem dX0_takeBack_47 : decode cX0_takeBack 47 = .ok (.ifnull 8, 3) := by decide +kernel
theorem dX0_takeBack_50 : decode cX0_takeBack 50 = .ok (.aload_n 1, 1) := by decide +kernel
theorem dX0_takeBack_51 : decode cX0_takeBack 51 = .ok (.aload_n 2, 1) := by decide +kernel
theorem dX0_takeBack_52 : decode cX0_takeBack 52 = .ok (.invokevirtual 25, 3) := by decide +kernel
theorem dX0_takeBack_55 : decode cX0_takeBack 55 = .ok (.return_, 1) := by decide +kernel
theorem dX1_survivor_0 : decode cX1_survivor 0 = .ok (.iload_n 0, 1) := by decide +kernel
theorem dX1_survivor_1 : decode cX1_survivor 1 = .ok (.iconst (-1), 1) := by decide +kernel
theorem dX1_survivor_2 : decode cX1_survivor 2 = .ok (.if_icmp .eq 8, 3) := by decide +kernel
theorem dX1_survivor_5 : decode cX1_survivor 5 = .ok (.iload_n 1, 1) := by decide +kernel
theorem dX1_survivor_6 : decode cX1_survivor 6 = .ok (.iconst (-1), 1) := by decide +kernel
theorem dX1_survivor_7 : decode cX1_survivor 7 = .ok (.if_icmp .ne 9, 3) := by decide +kernel
theorem dX1_survivor_10 : decode cX1_survivor 10 = .ok (.iload_n 0, 1) := by decide +kernel
theorem dX1_survivor_11 : decode cX1_survivor 11 = .ok (.iload_n 1, 1) := by decide +kernel
theorem dX1_survivor_12 : decode cX1_survivor 12 = .ok (.invokestatic 9, 3) := by decide +kernel
theorem dX1_survivor_15 : decode cX1_survivor 15 = .ok (.ireturn, 1) := by decide +kernel
theorem dX1_survivor_16 : decode cX1_survivor 16 = .ok (.iload_n 0, 1) := by decide +kernel
theorem dX1_survivor_17 : decode cX1_survivor 17 = .ok (.iload_n 1, 1) := by decide +kernel
theorem dX1_survivor_18 : decode cX1_survivor 18 = .ok (.if_icmp .ne 7, 3) := by decide +kernel
theorem dX1_survivor_21 : decode cX1_survivor 21 = .ok (.iconst (-1), 1) := by decide +kernel
theorem dX1_survivor_22 : decode cX1_survivor 22 = .ok (.goto 8, 3) := by decide +kernel
theorem dX1_survivor_25 : decode cX1_survivor 25 = .ok (.iload_n 0, 1) := by decide +kernel
theorem dX1_survivor_26 : decode cX1_survivor 26 = .ok (.iload_n 1, 1) := by decide +kernel
theorem dX1_survivor_27 : decode cX1_survivor 27 = .ok (.invokestatic 15, 3) := by decide +kernel
theorem dX1_survivor_30 : decode cX1_survivor 30 = .ok (.ireturn, 1) := by decide +kernel
theorem dX1_countKills_0 : decode cX1_countKills 0 = .ok (.aload_n 0, 1) := by decide +kernel
theorem dX1_countKills_1 : decode cX1_countKills 1 = .ok (.iload_n 1, 1) := by decide +kernel
theorem dX1_countKills_2 : decode cX1_countKills 2 = .ok (.invokevirtual 18, 3) := by decide +kernel
theorem dX1_countKills_5 : decode cX1_countKills 5 = .ok (.istore_n 3, 1) := by decide +kernel
theorem dX1_countKills_6 : decode cX1_countKills 6 = .ok (.aload_n 0, 1) := by decide +kernel
theorem dX1_countKills_7 : decode cX1_countKills 7 = .ok (.iload_n 2, 1) := by decide +kernel
theorem dX1_countKills_8 : decode cX1_countKills 8 = .ok (.invokevirtual 18, 3) := by decide +kernel
theorem dX1_countKills_11 : decode cX1_countKills 11 = .ok (.istore 4, 2) := by decide +kernel
theorem dX1_countKills_13 : decode cX1_countKills 13 = .ok (.iconst 0, 1) := by decide +kernel
theorem dX1_countKills_14 : decode cX1_countKills 14 = .ok (.istore 5, 2) := by decide +kernel
theorem dX1_countKills_16 : decode cX1_countKills 16 = .ok (.iconst 0, 1) := by decide +kernel
theorem dX1_countKills_17 : decode cX1_countKills 17 = .ok (.istore 6, 2) := by decide +kernel
theorem dX1_countKills_19 : decode cX1_countKills 19 = .ok (.iload 6, 2) := by decide +kernel
theorem dX1_countKills_21 : decode cX1_countKills 21 = .ok (.bipush 10, 2) := by decide +kernel
theorem dX1_countKills_23 : decode cX1_countKills 23 = .ok (.if_icmp .ge 61, 3) := by decide +kernel
theorem dX1_countKills_26 : decode cX1_countKills 26 = .ok (.aload_n 0, 1) := by decide +kernel
theorem dX1_countKills_27 : decode cX1_countKills 27 = .ok (.iload_n 3, 1) := by decide +kernel
theorem dX1_countKills_28 : decode cX1_countKills 28 = .ok (.iload 6, 2) := by decide +kernel
theorem dX1_countKills_30 : decode cX1_countKills 30 = .ok (.invokevirtual 24, 3) := by decide +kernel
theorem dX1_countKills_33 : decode cX1_countKills 33 = .ok (.istore 7, 2) := by decide +kernel
theorem dX1_countKills_35 : decode cX1_countKills 35 = .ok (.aload_n 0, 1) := by decide +kernel
theorem dX1_countKills_36 : decode cX1_countKills 36 = .ok (.iload 4, 2) := by decide +kernel
theorem dX1_countKills_38 : decode cX1_countKills 38 = .ok (.iload 6, 2) := by decide +kernel
theorem dX1_countKills_40 : decode cX1_countKills 40 = .ok (.invokevirtual 24, 3) := by decide +kernel
theorem dX1_countKills_43 : decode cX1_countKills 43 = .ok (.istore 8, 2) := by decide +kernel
theorem dX1_countKills_45 : decode cX1_countKills 45 = .ok (.iload 7, 2) := by decide +kernel
theorem dX1_countKills_47 : decode cX1_countKills 47 = .ok (.iconst (-1), 1) := by decide +kernel
theorem dX1_countKills_48 : decode cX1_countKills 48 = .ok (.if_icmp .eq 30, 3) := by decide +kernel
theorem dX1_countKills_51 : decode cX1_countKills 51 = .ok (.iload 8, 2) := by decide +kernel
theorem dX1_countKills_53 : decode cX1_countKills 53 = .ok (.iconst (-1), 1) := by decide +kernel
theorem dX1_countKills_54 : decode cX1_countKills 54 = .ok (.if_icmp .eq 24, 3) := by decide +kernel
theorem dX1_countKills_57 : decode cX1_countKills 57 = .ok (.iload 5, 2) := by decide +kernel
theorem dX1_countKills_59 : decode cX1_countKills 59 = .ok (.iload 7, 2) := by decide +kernel
theorem dX1_countKills_61 : decode cX1_countKills 61 = .ok (.iload 8, 2) := by decide +kernel
theorem dX1_countKills_63 : decode cX1_countKills 63 = .ok (.invokestatic 27, 3) := by decide +kernel
theorem dX1_countKills_66 : decode cX1_countKills 66 = .ok (.iconst (-1), 1) := by decide +kernel
theorem dX1_countKills_67 : decode cX1_countKills 67 = .ok (.if_icmp .ne 7, 3) := by decide +kernel
theorem dX1_countKills_70 : decode cX1_countKills 70 = .ok (.iconst 2, 1) := by decide +kernel
theorem dX1_countKills_71 : decode cX1_countKills 71 = .ok (.goto 4, 3) := by decide +kernel
theorem dX1_countKills_74 : decode cX1_countKills 74 = .ok (.iconst 1, 1) := by decide +kernel
theorem dX1_countKills_75 : decode cX1_countKills 75 = .ok (.iadd, 1) := by decide +kernel
theorem dX1_countKills_76 : decode cX1_countKills 76 = .ok (.istore 5, 2) := by decide +kernel
theorem dX1_countKills_78 : decode cX1_countKills 78 = .ok (.iinc 6 1, 3) := by decide +kernel
theorem dX1_countKills_81 : decode cX1_countKills 81 = .ok (.goto (-62), 3) := by decide +kernel
theorem dX1_countKills_84 : decode cX1_countKills 84 = .ok (.iload 5, 2) := by decide +kernel
theorem dX1_countKills_86 : decode cX1_countKills 86 = .ok (.ireturn, 1) := by decide +kernel
theorem dX1_settleNicks_0 : decode cX1_settleNicks 0 = .ok (.aload_n 0, 1) := by decide +kernel
theorem dX1_settleNicks_1 : decode cX1_settleNicks 1 = .ok (.iload_n 1, 1) := by decide +kernel
theorem dX1_settleNicks_2 : decode cX1_settleNicks 2 = .ok (.invokevirtual 18, 3) := by decide +kernel
theorem dX1_settleNicks_5 : decode cX1_settleNicks 5 = .ok (.istore_n 3, 1) := by decide +kernel
theorem dX1_settleNicks_6 : decode cX1_settleNicks 6 = .ok (.aload_n 0, 1) := by decide +kernel
theorem dX1_settleNicks_7 : decode cX1_settleNicks 7 = .ok (.iload_n 2, 1) := by decide +kernel
theorem dX1_settleNicks_8 : decode cX1_settleNicks 8 = .ok (.invokevirtual 18, 3) := by decide +kernel
theorem dX1_settleNicks_11 : decode cX1_settleNicks 11 = .ok (.istore 4, 2) := by decide +kernel
theorem dX1_settleNicks_13 : decode cX1_settleNicks 13 = .ok (.iconst 0, 1) := by decide +kernel
theorem dX1_settleNicks_14 : decode cX1_settleNicks 14 = .ok (.istore 5, 2) := by decide +kernel
theorem dX1_settleNicks_16 : decode cX1_settleNicks 16 = .ok (.iload 5, 2) := by decide +kernel
theorem dX1_settleNicks_18 : decode cX1_settleNicks 18 = .ok (.bipush 10, 2) := by decide +kernel
theorem dX1_settleNicks_20 : decode cX1_settleNicks 20 = .ok (.if_icmp .ge 50, 3) := by decide +kernel
theorem dX1_settleNicks_23 : decode cX1_settleNicks 23 = .ok (.aload_n 0, 1) := by decide +kernel
theorem dX1_settleNicks_24 : decode cX1_settleNicks 24 = .ok (.iload_n 3, 1) := by decide +kernel
theorem dX1_settleNicks_25 : decode cX1_settleNicks 25 = .ok (.iload 5, 2) := by decide +kernel
theorem dX1_settleNicks_27 : decode cX1_settleNicks 27 = .ok (.invokevirtual 32, 3) := by decide +kernel
theorem dX1_settleNicks_30 : decode cX1_settleNicks 30 = .ok (.istore 6, 2) := by decide +kernel
theorem dX1_settleNicks_32 : decode cX1_settleNicks 32 = .ok (.aload_n 0, 1) := by decide +kernel
theorem dX1_settleNicks_33 : decode cX1_settleNicks 33 = .ok (.iload 4, 2) := by decide +kernel
theorem dX1_settleNicks_35 : decode cX1_settleNicks 35 = .ok (.iload 5, 2) := by decide +kernel
theorem dX1_settleNicks_37 : decode cX1_settleNicks 37 = .ok (.invokevirtual 32, 3) := by decide +kernel
theorem dX1_settleNicks_40 : decode cX1_settleNicks 40 = .ok (.istore 7, 2) := by decide +kernel
theorem dX1_settleNicks_42 : decode cX1_settleNicks 42 = .ok (.iload 6, 2) := by decide +kernel
theorem dX1_settleNicks_44 : decode cX1_settleNicks 44 = .ok (.iconst (-1), 1) := by decide +kernel
theorem dX1_settleNicks_45 : decode cX1_settleNicks 45 = .ok (.if_icmp .eq 19, 3) := by decide +kernel
theorem dX1_settleNicks_48 : decode cX1_settleNicks 48 = .ok (.iload 7, 2) := by decide +kernel
theorem dX1_settleNicks_50 : decode cX1_settleNicks 50 = .ok (.iconst (-1), 1) := by decide +kernel
theorem dX1_settleNicks_51 : decode cX1_settleNicks 51 = .ok (.if_icmp .eq 13, 3) := by decide +kernel
theorem dX1_settleNicks_54 : decode cX1_settleNicks 54 = .ok (.aload_n 0, 1) := by decide +kernel
theorem dX1_settleNicks_55 : decode cX1_settleNicks 55 = .ok (.iload 5, 2) := by decide +kernel
theorem dX1_settleNicks_57 : decode cX1_settleNicks 57 = .ok (.iload 6, 2) := by decide +kernel
theorem dX1_settleNicks_59 : decode cX1_settleNicks 59 = .ok (.iload 7, 2) := by decide +kernel
theorem dX1_settleNicks_61 : decode cX1_settleNicks 61 = .ok (.invokestatic 35, 3) := by decide +kernel
theorem dX1_settleNicks_64 : decode cX1_settleNicks 64 = .ok (.iinc 5 1, 3) := by decide +kernel
theorem dX1_settleNicks_67 : decode cX1_settleNicks 67 = .ok (.goto (-51), 3) := by decide +kernel
theorem dX1_settleNicks_70 : decode cX1_settleNicks 70 = .ok (.return_, 1) := by decide +kernel
theorem dX1_settleCollision_0 : decode cX1_settleCollision 0 = .ok (.aload_n 0, 1) := by decide +kernel
theorem dX1_settleCollision_1 : decode cX1_settleCollision 1 = .ok (.iload_n 2, 1) := by decide +kernel
theorem dX1_settleCollision_2 : decode cX1_settleCollision 2 = .ok (.iload_n 1, 1) := by decide +kernel
theorem dX1_settleCollision_3 : decode cX1_settleCollision 3 = .ok (.invokevirtual 39, 3) := by decide +kernel
theorem dX1_settleCollision_6 : decode cX1_settleCollision 6 = .ok (.istore 4, 2) := by decide +kernel
theorem dX1_settleCollision_8 : decode cX1_settleCollision 8 = .ok (.aload_n 0, 1) := by decide +kernel
theorem dX1_settleCollision_9 : decode cX1_settleCollision 9 = .ok (.iload_n 3, 1) := by decide +kernel
theorem dX1_settleCollision_10 : decode cX1_settleCollision 10 = .ok (.iload_n 1, 1) := by decide +kernel
theorem dX1_settleCollision_11 : decode cX1_settleCollision 11 = .ok (.invokevirtual 39, 3) := by decide +kernel
theorem dX1_settleCollision_14 : decode cX1_settleCollision 14 = .ok (.istore 5, 2) := by decide +kernel
theorem dX1_settleCollision_16 : decode cX1_settleCollision 16 = .ok (.iload 4, 2) := by decide +kernel
theorem dX1_settleCollision_18 : decode cX1_settleCollision 18 = .ok (.iload 5, 2) := by decide +kernel
theorem dX1_settleCollision_20 : decode cX1_settleCollision 20 = .ok (.invokestatic 27, 3) := by decide +kernel
theorem dX1_settleCollision_23 : decode cX1_settleCollision 23 = .ok (.istore 6, 2) := by decide +kernel
theorem dX1_settleCollision_25 : decode cX1_settleCollision 25 = .ok (.iload 4, 2) := by decide +kernel
theorem dX1_settleCollision_27 : decode cX1_settleCollision 27 = .ok (.iload 6, 2) := by decide +kernel
theorem dX1_settleCollision_29 : decode cX1_settleCollision 29 = .ok (.if_icmp .eq 9, 3) := by decide +kernel
theorem dX1_settleCollision_32 : decode cX1_settleCollision 32 = .ok (.aload_n 0, 1) := by decide +kernel
theorem dX1_settleCollision_33 : decode cX1_settleCollision 33 = .ok (.iload_n 2, 1) := by decide +kernel
theorem dX1_settleCollision_34 : decode cX1_settleCollision 34 = .ok (.iload_n 1, 1) := by decide +kernel
theorem dX1_settleCollision_35 : decode cX1_settleCollision 35 = .ok (.invokevirtual 42, 3) := by decide +kernel
theorem dX1_settleCollision_38 : decode cX1_settleCollision 38 = .ok (.iload 5, 2) := by decide +kernel
theorem dX1_settleCollision_40 : decode cX1_settleCollision 40 = .ok (.iload 6, 2) := by decide +kernel
theorem dX1_settleCollision_42 : decode cX1_settleCollision 42 = .ok (.if_icmp .eq 9, 3) := by decide +kernel
theorem dX1_settleCollision_45 : decode cX1_settleCollision 45 = .ok (.aload_n 0, 1) := by decide +kernel
theorem dX1_settleCollision_46 : decode cX1_settleCollision 46 = .ok (.iload_n 3, 1) := by decide +kernel
theorem dX1_settleCollision_47 : decode cX1_settleCollision 47 = .ok (.iload_n 1, 1) := by decide +kernel
theorem dX1_settleCollision_48 : decode cX1_settleCollision 48 = .ok (.invokevirtual 42, 3) := by decide +kernel
theorem dX1_settleCollision_51 : decode cX1_settleCollision 51 = .ok (.return_, 1) := by decide +kernel
theorem dX1_settleChannels_0 : decode cX1_settleChannels 0 = .ok (.aload_n 0, 1) := by decide +kernel
theorem dX1_settleChannels_1 : decode cX1_settleChannels 1 = .ok (.iconst 0, 1) := by decide +kernel
theorem dX1_settleChannels_2 : decode cX1_settleChannels 2 = .ok (.putfield 46, 3) := by decide +kernel
theorem dX1_settleChannels_5 : decode cX1_settleChannels 5 = .ok (.aload_n 0, 1) := by decide +kernel
theorem dX1_settleChannels_6 : decode cX1_settleChannels 6 = .ok (.iconst 0, 1) := by decide +kernel
theorem dX1_settleChannels_7 : decode cX1_settleChannels 7 = .ok (.putfield 50, 3) := by decide +kernel
theorem dX1_settleChannels_10 : decode cX1_settleChannels 10 = .ok (.iconst 0, 1) := by decide +kernel
theorem dX1_settleChannels_11 : decode cX1_settleChannels 11 = .ok (.istore_n 3, 1) := by decide +kernel
theorem dX1_settleChannels_12 : decode cX1_settleChannels 12 = .ok (.iload_n 3, 1) := by decide +kernel
theorem dX1_settleChannels_13 : decode cX1_settleChannels 13 = .ok (.iconst 4, 1) := by decide +kernel
theorem dX1_settleChannels_14 : decode cX1_settleChannels 14 = .ok (.if_icmp .ge 80, 3) := by decide +kernel
theorem dX1_settleChannels_17 : decode cX1_settleChannels 17 = .ok (.aload_n 0, 1) := by decide +kernel
theorem dX1_settleChannels_18 : decode cX1_settleChannels 18 = .ok (.iload_n 1, 1) := by decide +kernel
theorem dX1_settleChannels_19 : decode cX1_settleChannels 19 = .ok (.iload_n 3, 1) := by decide +kernel
theorem dX1_settleChannels_20 : decode cX1_settleChannels 20 = .ok (.invokevirtual 53, 3) := by decide +kernel
theorem dX1_settleChannels_23 : decode cX1_settleChannels 23 = .ok (.istore 4, 2) := by decide +kernel
theorem dX1_settleChannels_25 : decode cX1_settleChannels 25 = .ok (.aload_n 0, 1) := by decide +kernel
theorem dX1_settleChannels_26 : decode cX1_settleChannels 26 = .ok (.iload_n 2, 1) := by decide +kernel
theorem dX1_settleChannels_27 : decode cX1_settleChannels 27 = .ok (.iload_n 3, 1) := by decide +kernel
theorem dX1_settleChannels_28 : decode cX1_settleChannels 28 = .ok (.invokevirtual 53, 3) := by decide +kernel
theorem dX1_settleChannels_31 : decode cX1_settleChannels 31 = .ok (.istore 5, 2) := by decide +kernel
theorem dX1_settleChannels_33 : decode cX1_settleChannels 33 = .ok (.iload 4, 2) := by decide +kernel
theorem dX1_settleChannels_35 : decode cX1_settleChannels 35 = .ok (.ifCond .eq 18, 3) := by decide +kernel
theorem dX1_settleChannels_38 : decode cX1_settleChannels 38 = .ok (.iload 5, 2) := by decide +kernel
theorem dX1_settleChannels_40 : decode cX1_settleChannels 40 = .ok (.ifCond .eq 13, 3) := by decide +kernel
theorem dX1_settleChannels_43 : decode cX1_settleChannels 43 = .ok (.aload_n 0, 1) := by decide +kernel
theorem dX1_settleChannels_44 : decode cX1_settleChannels 44 = .ok (.iload_n 1, 1) := by decide +kernel
theorem dX1_settleChannels_45 : decode cX1_settleChannels 45 = .ok (.iload_n 2, 1) := by decide +kernel
theorem dX1_settleChannels_46 : decode cX1_settleChannels 46 = .ok (.iload_n 3, 1) := by decide +kernel
theorem dX1_settleChannels_47 : decode cX1_settleChannels 47 = .ok (.invokestatic 57, 3) := by decide +kernel
theorem dX1_settleChannels_50 : decode cX1_settleChannels 50 = .ok (.goto 38, 3) := by decide +kernel
theorem dX1_settleChannels_53 : decode cX1_settleChannels 53 = .ok (.iload 4, 2) := by decide +kernel
theorem dX1_settleChannels_55 : decode cX1_settleChannels 55 = .ok (.ifCond .eq 17, 3) := by decide +kernel
theorem dX1_settleChannels_58 : decode cX1_settleChannels 58 = .ok (.aload_n 0, 1) := by decide +kernel
theorem dX1_settleChannels_59 : decode cX1_settleChannels 59 = .ok (.iload_n 1, 1) := by decide +kernel
theorem dX1_settleChannels_60 : decode cX1_settleChannels 60 = .ok (.aload_n 0, 1) := by decide +kernel
theorem dX1_settleChannels_61 : decode cX1_settleChannels 61 = .ok (.iload_n 2, 1) := by decide +kernel
theorem dX1_settleChannels_62 : decode cX1_settleChannels 62 = .ok (.invokevirtual 18, 3) := by decide +kernel
theorem dX1_settleChannels_65 : decode cX1_settleChannels 65 = .ok (.iload_n 3, 1) := by decide +kernel
theorem dX1_settleChannels_66 : decode cX1_settleChannels 66 = .ok (.invokestatic 60, 3) := by decide +kernel
theorem dX1_settleChannels_69 : decode cX1_settleChannels 69 = .ok (.goto 19, 3) := by decide +kernel
theorem dX1_settleChannels_72 : decode cX1_settleChannels 72 = .ok (.iload 5, 2) := by decide +kernel
theorem dX1_settleChannels_74 : decode cX1_settleChannels 74 = .ok (.ifCond .eq 14, 3) := by decide +kernel
theorem dX1_settleChannels_77 : decode cX1_settleChannels 77 = .ok (.aload_n 0, 1) := by decide +kernel
theorem dX1_settleChannels_78 : decode cX1_settleChannels 78 = .ok (.iload_n 2, 1) := by decide +kernel
theorem dX1_settleChannels_79 : decode cX1_settleChannels 79 = .ok (.aload_n 0, 1) := by decide +kernel
theorem dX1_settleChannels_80 : decode cX1_settleChannels 80 = .ok (.iload_n 1, 1) := by decide +kernel
theorem dX1_settleChannels_81 : decode cX1_settleChannels 81 = .ok (.invokevirtual 18, 3) := by decide +kernel
theorem dX1_settleChannels_84 : decode cX1_settleChannels 84 = .ok (.iload_n 3, 1) := by decide +kernel
theorem dX1_settleChannels_85 : decode cX1_settleChannels 85 = .ok (.invokestatic 60, 3) := by decide +kernel
theorem dX1_settleChannels_88 : decode cX1_settleChannels 88 = .ok (.iinc 3 1, 3) := by decide +kernel
theorem dX1_settleChannels_91 : decode cX1_settleChannels 91 = .ok (.goto (-79), 3) := by decide +kernel
theorem dX1_settleChannels_94 : decode cX1_settleChannels 94 = .ok (.return_, 1) := by decide +kernel
theorem dX1_uniteChannels_0 : decode cX1_uniteChannels 0 = .ok (.aload_n 0, 1) := by decide +kernel
theorem dX1_uniteChannels_1 : decode cX1_uniteChannels 1 = .ok (.iload_n 1, 1) := by decide +kernel
theorem dX1_uniteChannels_2 : decode cX1_uniteChannels 2 = .ok (.iload_n 3, 1) := by decide +kernel
theorem dX1_uniteChannels_3 : decode cX1_uniteChannels 3 = .ok (.invokevirtual 63, 3) := by decide +kernel
theorem dX1_uniteChannels_6 : decode cX1_uniteChannels 6 = .ok (.istore 4, 2) := by decide +kernel
theorem dX1_uniteChannels_8 : decode cX1_uniteChannels 8 = .ok (.aload_n 0, 1) := by decide +kernel
theorem dX1_uniteChannels_9 : decode cX1_uniteChannels 9 = .ok (.iload_n 2, 1) := by decide +kernel
theorem dX1_uniteChannels_10 : decode cX1_uniteChannels 10 = .ok (.iload_n 3, 1) := by decide +kernel
theorem dX1_uniteChannels_11 : decode cX1_uniteChannels 11 = .ok (.invokevirtual 63, 3) := by decide +kernel
theorem dX1_uniteChannels_14 : decode cX1_uniteChannels 14 = .ok (.istore 5, 2) := by decide +kernel
theorem dX1_uniteChannels_16 : decode cX1_uniteChannels 16 = .ok (.iload 4, 2) := by decide +kernel
theorem dX1_uniteChannels_18 : decode cX1_uniteChannels 18 = .ok (.iload 5, 2) := by decide +kernel
theorem dX1_uniteChannels_20 : decode cX1_uniteChannels 20 = .ok (.if_icmp .ge 13, 3) := by decide +kernel
theorem dX1_uniteChannels_23 : decode cX1_uniteChannels 23 = .ok (.aload_n 0, 1) := by decide +kernel
theorem dX1_uniteChannels_24 : decode cX1_uniteChannels 24 = .ok (.iload_n 1, 1) := by decide +kernel
theorem dX1_uniteChannels_25 : decode cX1_uniteChannels 25 = .ok (.iload_n 2, 1) := by decide +kernel
theorem dX1_uniteChannels_26 : decode cX1_uniteChannels 26 = .ok (.iload_n 3, 1) := by decide +kernel
theorem dX1_uniteChannels_27 : decode cX1_uniteChannels 27 = .ok (.invokestatic 66, 3) := by decide +kernel
theorem dX1_uniteChannels_30 : decode cX1_uniteChannels 30 = .ok (.goto 63, 3) := by decide +kernel
theorem dX1_uniteChannels_33 : decode cX1_uniteChannels 33 = .ok (.iload 5, 2) := by decide +kernel
theorem dX1_uniteChannels_35 : decode cX1_uniteChannels 35 = .ok (.iload 4, 2) := by decide +kernel
theorem dX1_uniteChannels_37 : decode cX1_uniteChannels 37 = .ok (.if_icmp .ge 13, 3) := by decide +kernel
theorem dX1_uniteChannels_40 : decode cX1_uniteChannels 40 = .ok (.aload_n 0, 1) := by decide +kernel
theorem dX1_uniteChannels_41 : decode cX1_uniteChannels 41 = .ok (.iload_n 2, 1) := by decide +kernel
theorem dX1_uniteChannels_42 : decode cX1_uniteChannels 42 = .ok (.iload_n 1, 1) := by decide +kernel
theorem dX1_uniteChannels_43 : decode cX1_uniteChannels 43 = .ok (.iload_n 3, 1) := by decide +kernel
theorem dX1_uniteChannels_44 : decode cX1_uniteChannels 44 = .ok (.invokestatic 66, 3) := by decide +kernel
theorem dX1_uniteChannels_47 : decode cX1_uniteChannels 47 = .ok (.goto 46, 3) := by decide +kernel
theorem dX1_uniteChannels_50 : decode cX1_uniteChannels 50 = .ok (.aload_n 0, 1) := by decide +kernel
theorem dX1_uniteChannels_51 : decode cX1_uniteChannels 51 = .ok (.iload_n 1, 1) := by decide +kernel
theorem dX1_uniteChannels_52 : decode cX1_uniteChannels 52 = .ok (.iload_n 3, 1) := by decide +kernel
theorem dX1_uniteChannels_53 : decode cX1_uniteChannels 53 = .ok (.invokevirtual 69, 3) := by decide +kernel
theorem dX1_uniteChannels_56 : decode cX1_uniteChannels 56 = .ok (.aload_n 0, 1) := by decide +kernel
theorem dX1_uniteChannels_57 : decode cX1_uniteChannels 57 = .ok (.iload_n 2, 1) := by decide +kernel
theorem dX1_uniteChannels_58 : decode cX1_uniteChannels 58 = .ok (.iload_n 3, 1) := by decide +kernel
theorem dX1_uniteChannels_59 : decode cX1_uniteChannels 59 = .ok (.invokevirtual 69, 3) := by decide +kernel
theorem dX1_uniteChannels_62 : decode cX1_uniteChannels 62 = .ok (.ior, 1) := by decide +kernel
theorem dX1_uniteChannels_63 : decode cX1_uniteChannels 63 = .ok (.istore 6, 2) := by decide +kernel
theorem dX1_uniteChannels_65 : decode cX1_uniteChannels 65 = .ok (.aload_n 0, 1) := by decide +kernel
theorem dX1_uniteChannels_66 : decode cX1_uniteChannels 66 = .ok (.aload_n 0, 1) := by decide +kernel
theorem dX1_uniteChannels_67 : decode cX1_uniteChannels 67 = .ok (.iload_n 1, 1) := by decide +kernel
theorem dX1_uniteChannels_68 : decode cX1_uniteChannels 68 = .ok (.invokevirtual 18, 3) := by decide +kernel
theorem dX1_uniteChannels_71 : decode cX1_uniteChannels 71 = .ok (.iload_n 3, 1) := by decide +kernel
theorem dX1_uniteChannels_72 : decode cX1_uniteChannels 72 = .ok (.iload 4, 2) := by decide +kernel
theorem dX1_uniteChannels_74 : decode cX1_uniteChannels 74 = .ok (.iload 6, 2) := by decide +kernel
theorem dX1_uniteChannels_76 : decode cX1_uniteChannels 76 = .ok (.invokevirtual 72, 3) := by decide +kernel
theorem dX1_uniteChannels_79 : decode cX1_uniteChannels 79 = .ok (.aload_n 0, 1) := by decide +kernel
theorem dX1_uniteChannels_80 : decode cX1_uniteChannels 80 = .ok (.aload_n 0, 1) := by decide +kernel
theorem dX1_uniteChannels_81 : decode cX1_uniteChannels 81 = .ok (.iload_n 2, 1) := by decide +kernel
theorem dX1_uniteChannels_82 : decode cX1_uniteChannels 82 = .ok (.invokevirtual 18, 3) := by decide +kernel
theorem dX1_uniteChannels_85 : decode cX1_uniteChannels 85 = .ok (.iload_n 3, 1) := by decide +kernel
theorem dX1_uniteChannels_86 : decode cX1_uniteChannels 86 = .ok (.iload 4, 2) := by decide +kernel
theorem dX1_uniteChannels_88 : decode cX1_uniteChannels 88 = .ok (.iload 6, 2) := by decide +kernel
theorem dX1_uniteChannels_90 : decode cX1_uniteChannels 90 = .ok (.invokevirtual 72, 3) := by decide +kernel
theorem dX1_uniteChannels_93 : decode cX1_uniteChannels 93 = .ok (.return_, 1) := by decide +kernel
theorem dX1_overruleChannel_0 : decode cX1_overruleChannel 0 = .ok (.aload_n 0, 1) := by decide +kernel
theorem dX1_overruleChannel_1 : decode cX1_overruleChannel 1 = .ok (.iload_n 2, 1) := by decide +kernel
theorem dX1_overruleChannel_2 : decode cX1_overruleChannel 2 = .ok (.invokevirtual 18, 3) := by decide +kernel
theorem dX1_overruleChannel_5 : decode cX1_overruleChannel 5 = .ok (.istore 4, 2) := by decide +kernel
theorem dX1_overruleChannel_7 : decode cX1_overruleChannel 7 = .ok (.aload_n 0, 1) := by decide +kernel
theorem dX1_overruleChannel_8 : decode cX1_overruleChannel 8 = .ok (.dup, 1) := by decide +kernel
theorem dX1_overruleChannel_9 : decode cX1_overruleChannel 9 = .ok (.getfield 46, 3) := by decide +kernel
theorem dX1_overruleChannel_12 : decode cX1_overruleChannel 12 = .ok (.aload_n 0, 1) := by decide +kernel
theorem dX1_overruleChannel_13 : decode cX1_overruleChannel 13 = .ok (.iload 4, 2) := by decide +kernel
theorem dX1_overruleChannel_15 : decode cX1_overruleChannel 15 = .ok (.iload_n 3, 1) := by decide +kernel
theorem dX1_overruleChannel_16 : decode cX1_overruleChannel 16 = .ok (.invokevirtual 76, 3) := by decide +kernel
theorem dX1_overruleChannel_19 : decode cX1_overruleChannel 19 = .ok (.invokestatic 79, 3) := by decide +kernel
theorem dX1_overruleChannel_22 : decode cX1_overruleChannel 22 = .ok (.iadd, 1) := by decide +kernel
theorem dX1_overruleChannel_23 : decode cX1_overruleChannel 23 = .ok (.putfield 46, 3) := by decide +kernel
theorem dX1_overruleChannel_26 : decode cX1_overruleChannel 26 = .ok (.aload_n 0, 1) := by decide +kernel
theorem dX1_overruleChannel_27 : decode cX1_overruleChannel 27 = .ok (.dup, 1) := by decide +kernel
theorem dX1_overruleChannel_28 : decode cX1_overruleChannel 28 = .ok (.getfield 50, 3) := by decide +kernel
theorem dX1_overruleChannel_31 : decode cX1_overruleChannel 31 = .ok (.aload_n 0, 1) := by decide +kernel
theorem dX1_overruleChannel_32 : decode cX1_overruleChannel 32 = .ok (.iload_n 2, 1) := by decide +kernel
theorem dX1_overruleChannel_33 : decode cX1_overruleChannel 33 = .ok (.iload_n 3, 1) := by decide +kernel
theorem dX1_overruleChannel_34 : decode cX1_overruleChannel 34 = .ok (.invokevirtual 69, 3) := by decide +kernel
theorem dX1_overruleChannel_37 : decode cX1_overruleChannel 37 = .ok (.invokestatic 79, 3) := by decide +kernel
theorem dX1_overruleChannel_40 : decode cX1_overruleChannel 40 = .ok (.iadd, 1) := by decide +kernel
theorem dX1_overruleChannel_41 : decode cX1_overruleChannel 41 = .ok (.putfield 50, 3) := by decide +kernel
theorem dX1_overruleChannel_44 : decode cX1_overruleChannel 44 = .ok (.aload_n 0, 1) := by decide +kernel
theorem dX1_overruleChannel_45 : decode cX1_overruleChannel 45 = .ok (.iload 4, 2) := by decide +kernel
theorem dX1_overruleChannel_47 : decode cX1_overruleChannel 47 = .ok (.iload_n 3, 1) := by decide +kernel
theorem dX1_overruleChannel_48 : decode cX1_overruleChannel 48 = .ok (.iconst 0, 1) := by decide +kernel
theorem dX1_overruleChannel_49 : decode cX1_overruleChannel 49 = .ok (.invokevirtual 84, 3) := by decide +kernel
theorem dX1_overruleChannel_52 : decode cX1_overruleChannel 52 = .ok (.aload_n 0, 1) := by decide +kernel
theorem dX1_overruleChannel_53 : decode cX1_overruleChannel 53 = .ok (.iload_n 1, 1) := by decide +kernel
theorem dX1_overruleChannel_54 : decode cX1_overruleChannel 54 = .ok (.iload 4, 2) := by decide +kernel
theorem dX1_overruleChannel_56 : decode cX1_overruleChannel 56 = .ok (.iload_n 3, 1) := by decide +kernel
theorem dX1_overruleChannel_57 : decode cX1_overruleChannel 57 = .ok (.invokestatic 60, 3) := by decide +kernel
theorem dX1_overruleChannel_60 : decode cX1_overruleChannel 60 = .ok (.return_, 1) := by decide +kernel
theorem dX1_tellOfChannel_0 : decode cX1_tellOfChannel 0 = .ok (.aload_n 0, 1) := by decide +kernel
theorem dX1_tellOfChannel_1 : decode cX1_tellOfChannel 1 = .ok (.iload_n 2, 1) := by decide +kernel
theorem dX1_tellOfChannel_2 : decode cX1_tellOfChannel 2 = .ok (.iload_n 3, 1) := by decide +kernel
theorem dX1_tellOfChannel_3 : decode cX1_tellOfChannel 3 = .ok (.aload_n 0, 1) := by decide +kernel
theorem dX1_tellOfChannel_4 : decode cX1_tellOfChannel 4 = .ok (.iload_n 1, 1) := by decide +kernel
theorem dX1_tellOfChannel_5 : decode cX1_tellOfChannel 5 = .ok (.iload_n 3, 1) := by decide +kernel
theorem dX1_tellOfChannel_6 : decode cX1_tellOfChannel 6 = .ok (.invokevirtual 63, 3) := by decide +kernel
theorem dX1_tellOfChannel_9 : decode cX1_tellOfChannel 9 = .ok (.aload_n 0, 1) := by decide +kernel
theorem dX1_tellOfChannel_10 : decode cX1_tellOfChannel 10 = .ok (.iload_n 1, 1) := by decide +kernel
theorem dX1_tellOfChannel_11 : decode cX1_tellOfChannel 11 = .ok (.iload_n 3, 1) := by decide +kernel
theorem dX1_tellOfChannel_12 : decode cX1_tellOfChannel 12 = .ok (.invokevirtual 69, 3) := by decide +kernel
theorem dX1_tellOfChannel_15 : decode cX1_tellOfChannel 15 = .ok (.invokevirtual 72, 3) := by decide +kernel
theorem dX1_tellOfChannel_18 : decode cX1_tellOfChannel 18 = .ok (.return_, 1) := by decide +kernel
theorem dX2_init_0 : decode cX2_init 0 = .ok (.aload_n 0, 1) := by decide +kernel
theorem dX2_init_1 : decode cX2_init 1 = .ok (.invokespecial 3, 3) := by decide +kernel
theorem dX2_init_4 : decode cX2_init 4 = .ok (.aload_n 0, 1) := by decide +kernel
theorem dX2_init_5 : decode cX2_init 5 = .ok (.bipush 40, 2) := by decide +kernel
theorem dX2_init_7 : decode cX2_init 7 = .ok (.newarray .char, 2) := by decide +kernel
theorem dX2_init_9 : decode cX2_init 9 = .ok (.putfield 9, 3) := by decide +kernel
theorem dX2_init_12 : decode cX2_init 12 = .ok (.aload_n 0, 1) := by decide +kernel
theorem dX2_init_13 : decode cX2_init 13 = .ok (.iconst 0, 1) := by decide +kernel
theorem dX2_init_14 : decode cX2_init 14 = .ok (.putfield 15, 3) := by decide +kernel
theorem dX2_init_17 : decode cX2_init 17 = .ok (.return_, 1) := by decide +kernel
theorem dX2_isFull_0 : decode cX2_isFull 0 = .ok (.aload_n 0, 1) := by decide +kernel
theorem dX2_isFull_1 : decode cX2_isFull 1 = .ok (.getfield 15, 3) := by decide +kernel
theorem dX2_isFull_4 : decode cX2_isFull 4 = .ok (.bipush 40, 2) := by decide +kernel
theorem dX2_isFull_6 : decode cX2_isFull 6 = .ok (.if_icmp .lt 7, 3) := by decide +kernel
theorem dX2_isFull_9 : decode cX2_isFull 9 = .ok (.iconst 1, 1) := by decide +kernel
theorem dX2_isFull_10 : decode cX2_isFull 10 = .ok (.goto 4, 3) := by decide +kernel
theorem dX2_isFull_13 : decode cX2_isFull 13 = .ok (.iconst 0, 1) := by decide +kernel
theorem dX2_isFull_14 : decode cX2_isFull 14 = .ok (.ireturn, 1) := by decide +kernel
theorem dX2_add_0 : decode cX2_add 0 = .ok (.aload_n 0, 1) := by decide +kernel
theorem dX2_add_1 : decode cX2_add 1 = .ok (.invokevirtual 19, 3) := by decide +kernel
theorem dX2_add_4 : decode cX2_add 4 = .ok (.ifCond .ne 23, 3) := by decide +kernel
theorem dX2_add_7 : decode cX2_add 7 = .ok (.aload_n 0, 1) := by decide +kernel
theorem dX2_add_8 : decode cX2_add 8 = .ok (.getfield 9, 3) := by decide +kernel
theorem dX2_add_11 : decode cX2_add 11 = .ok (.aload_n 0, 1) := by decide +kernel
theorem dX2_add_12 : decode cX2_add 12 = .ok (.getfield 15, 3) := by decide +kernel
theorem dX2_add_15 : decode cX2_add 15 = .ok (.iload_n 1, 1) := by decide +kernel
theorem dX2_add_16 : decode cX2_add 16 = .ok (.castore, 1) := by decide +kernel
theorem dX2_add_17 : decode cX2_add 17 = .ok (.aload_n 0, 1) := by decide +kernel
theorem dX2_add_18 : decode cX2_add 18 = .ok (.dup, 1) := by decide +kernel
theorem dX2_add_19 : decode cX2_add 19 = .ok (.getfield 15, 3) := by decide +kernel
theorem dX2_add_22 : decode cX2_add 22 = .ok (.iconst 1, 1) := by decide +kernel
theorem dX2_add_23 : decode cX2_add 23 = .ok (.iadd, 1) := by decide +kernel
theorem dX2_add_24 : decode cX2_add 24 = .ok (.putfield 15, 3) := by decide +kernel
theorem dX2_add_27 : decode cX2_add 27 = .ok (.return_, 1) := by decide +kernel
theorem dX2_empty_0 : decode cX2_empty 0 = .ok (.aload_n 0, 1) := by decide +kernel
theorem dX2_empty_1 : decode cX2_empty 1 = .ok (.iconst 0, 1) := by decide +kernel
theorem dX2_empty_2 : decode cX2_empty 2 = .ok (.putfield 15, 3) := by decide +kernel
theorem dX2_empty_5 : decode cX2_empty 5 = .ok (.return_, 1) := by decide +kernel
theorem dX2_errorOffset_0 : decode cX2_errorOffset 0 = .ok (.iconst 1, 1) := by decide +kernel
theorem dX2_errorOffset_1 : decode cX2_errorOffset 1 = .ok (.istore_n 2, 1) := by decide +kernel
theorem dX2_errorOffset_2 : decode cX2_errorOffset 2 = .ok (.iconst 0, 1) := by decide +kernel
theorem dX2_errorOffset_3 : decode cX2_errorOffset 3 = .ok (.istore_n 3, 1) := by decide +kernel
theorem dX2_errorOffset_4 : decode cX2_errorOffset 4 = .ok (.iload_n 3, 1) := by decide +kernel
theorem dX2_errorOffset_5 : decode cX2_errorOffset 5 = .ok (.aload_n 0, 1) := by decide +kernel
theorem dX2_errorOffset_6 : decode cX2_errorOffset 6 = .ok (.getfield 15, 3) := by decide +kernel
theorem dX2_errorOffset_9 : decode cX2_errorOffset 9 = .ok (.if_icmp .ge 27, 3) := by decide +kernel
theorem dX2_errorOffset_12 : decode cX2_errorOffset 12 = .ok (.iload_n 2, 1) := by decide +kernel
theorem dX2_errorOffset_13 : decode cX2_errorOffset 13 = .ok (.aload_n 0, 1) := by decide +kernel
theorem dX2_errorOffset_14 : decode cX2_errorOffset 14 = .ok (.getfield 9, 3) := by decide +kernel
theorem dX2_errorOffset_17 : decode cX2_errorOffset 17 = .ok (.iload_n 3, 1) := by decide +kernel
theorem dX2_errorOffset_18 : decode cX2_errorOffset 18 = .ok (.caload, 1) := by decide +kernel
theorem dX2_errorOffset_19 : decode cX2_errorOffset 19 = .ok (.iload_n 1, 1) := by decide +kernel
theorem dX2_errorOffset_20 : decode cX2_errorOffset 20 = .ok (.invokestatic 23, 3) := by decide +kernel
theorem dX2_errorOffset_23 : decode cX2_errorOffset 23 = .ok (.istore_n 2, 1) := by decide +kernel
theorem dX2_errorOffset_24 : decode cX2_errorOffset 24 = .ok (.iload_n 2, 1) := by decide +kernel
theorem dX2_errorOffset_25 : decode cX2_errorOffset 25 = .ok (.ifCond .ne 5, 3) := by decide +kernel
theorem dX2_errorOffset_28 : decode cX2_errorOffset 28 = .ok (.iload_n 3, 1) := by decide +kernel
theorem dX2_errorOffset_29 : decode cX2_errorOffset 29 = .ok (.ireturn, 1) := by decide +kernel
theorem dX2_errorOffset_30 : decode cX2_errorOffset 30 = .ok (.iinc 3 1, 3) := by decide +kernel
theorem dX2_errorOffset_33 : decode cX2_errorOffset 33 = .ok (.goto (-29), 3) := by decide +kernel
theorem dX2_errorOffset_36 : decode cX2_errorOffset 36 = .ok (.iload_n 2, 1) := by decide +kernel
theorem dX2_errorOffset_37 : decode cX2_errorOffset 37 = .ok (.iconst 3, 1) := by decide +kernel
theorem dX2_errorOffset_38 : decode cX2_errorOffset 38 = .ok (.if_icmp .ne 7, 3) := by decide +kernel
theorem dX2_errorOffset_41 : decode cX2_errorOffset 41 = .ok (.iconst (-1), 1) := by decide +kernel
theorem dX2_errorOffset_42 : decode cX2_errorOffset 42 = .ok (.goto 7, 3) := by decide +kernel
theorem dX2_errorOffset_45 : decode cX2_errorOffset 45 = .ok (.aload_n 0, 1) := by decide +kernel
theorem dX2_errorOffset_46 : decode cX2_errorOffset 46 = .ok (.getfield 15, 3) := by decide +kernel
theorem dX2_errorOffset_49 : decode cX2_errorOffset 49 = .ok (.ireturn, 1) := by decide +kernel
theorem dX2_placeAfter_0 : decode cX2_placeAfter 0 = .ok (.iload_n 0, 1) := by decide +kernel
theorem dX2_placeAfter_1 : decode cX2_placeAfter 1 = .ok (.iconst 4, 1) := by decide +kernel
theorem dX2_placeAfter_2 : decode cX2_placeAfter 2 = .ok (.if_icmp .ne 37, 3) := by decide +kernel
theorem dX2_placeAfter_5 : decode cX2_placeAfter 5 = .ok (.iload_n 1, 1) := by decide +kernel
theorem dX2_placeAfter_6 : decode cX2_placeAfter 6 = .ok (.invokestatic 27, 3) := by decide +kernel
theorem dX2_placeAfter_9 : decode cX2_placeAfter 9 = .ok (.ifCond .eq 18, 3) := by decide +kernel
theorem dX2_placeAfter_12 : decode cX2_placeAfter 12 = .ok (.iload_n 2, 1) := by decide +kernel
theorem dX2_placeAfter_13 : decode cX2_placeAfter 13 = .ok (.iload_n 1, 1) := by decide +kernel
theorem dX2_placeAfter_14 : decode cX2_placeAfter 14 = .ok (.bipush 48, 2) := by decide +kernel
theorem dX2_placeAfter_16 : decode cX2_placeAfter 16 = .ok (.isub, 1) := by decide +kernel
theorem dX2_placeAfter_17 : decode cX2_placeAfter 17 = .ok (.invokestatic 31, 3) := by decide +kernel
theorem dX2_placeAfter_20 : decode cX2_placeAfter 20 = .ok (.ifCond .eq 7, 3) := by decide +kernel
theorem dX2_placeAfter_23 : decode cX2_placeAfter 23 = .ok (.iconst 1, 1) := by decide +kernel
theorem dX2_placeAfter_24 : decode cX2_placeAfter 24 = .ok (.goto 4, 3) := by decide +kernel
theorem dX2_placeAfter_27 : decode cX2_placeAfter 27 = .ok (.iconst 0, 1) := by decide +kernel
theorem dX2_placeAfter_28 : decode cX2_placeAfter 28 = .ok (.istore_n 3, 1) := by decide +kernel
theorem dX2_placeAfter_29 : decode cX2_placeAfter 29 = .ok (.iload_n 3, 1) := by decide +kernel
theorem dX2_placeAfter_30 : decode cX2_placeAfter 30 = .ok (.ifCond .eq 7, 3) := by decide +kernel
theorem dX2_placeAfter_33 : decode cX2_placeAfter 33 = .ok (.iconst 3, 1) := by decide +kernel
theorem dX2_placeAfter_34 : decode cX2_placeAfter 34 = .ok (.goto 4, 3) := by decide +kernel
theorem dX2_placeAfter_37 : decode cX2_placeAfter 37 = .ok (.iconst 0, 1) := by decide +kernel
theorem dX2_placeAfter_38 : decode cX2_placeAfter 38 = .ok (.ireturn, 1) := by decide +kernel
theorem dX2_placeAfter_39 : decode cX2_placeAfter 39 = .ok (.iload_n 1, 1) := by decide +kernel
theorem dX2_placeAfter_40 : decode cX2_placeAfter 40 = .ok (.invokestatic 35, 3) := by decide +kernel
theorem dX2_placeAfter_43 : decode cX2_placeAfter 43 = .ok (.ifCond .eq 14, 3) := by decide +kernel
theorem dX2_placeAfter_46 : decode cX2_placeAfter 46 = .ok (.iload_n 0, 1) := by decide +kernel
theorem dX2_placeAfter_47 : decode cX2_placeAfter 47 = .ok (.iconst 2, 1) := by decide +kernel
theorem dX2_placeAfter_48 : decode cX2_placeAfter 48 = .ok (.if_icmp .ne 7, 3) := by decide +kernel
theorem dX2_placeAfter_51 : decode cX2_placeAfter 51 = .ok (.iconst 0, 1) := by decide +kernel
theorem dX2_placeAfter_52 : decode cX2_placeAfter 52 = .ok (.goto 4, 3) := by decide +kernel
theorem dX2_placeAfter_55 : decode cX2_placeAfter 55 = .ok (.iconst 2, 1) := by decide +kernel
theorem dX2_placeAfter_56 : decode cX2_placeAfter 56 = .ok (.ireturn, 1) := by decide +kernel
theorem dX2_placeAfter_57 : decode cX2_placeAfter 57 = .ok (.iload_n 0, 1) := by decide +kernel
theorem dX2_placeAfter_58 : decode cX2_placeAfter 58 = .ok (.iconst 1, 1) := by decide +kernel
theorem dX2_placeAfter_59 : decode cX2_placeAfter 59 = .ok (.if_icmp .ne 5, 3) := by decide +kernel
theorem dX2_placeAfter_62 : decode cX2_placeAfter 62 = .ok (.iconst 0, 1) := by decide +kernel
theorem dX2_placeAfter_63 : decode cX2_placeAfter 63 = .ok (.ireturn, 1) := by decide +kernel
theorem dX2_placeAfter_64 : decode cX2_placeAfter 64 = .ok (.iload_n 1, 1) := by decide +kernel
theorem dX2_placeAfter_65 : decode cX2_placeAfter 65 = .ok (.bipush 111, 2) := by decide +kernel
theorem dX2_placeAfter_67 : decode cX2_placeAfter 67 = .ok (.if_icmp .ne 5, 3) := by decide +kernel
theorem dX2_placeAfter_70 : decode cX2_placeAfter 70 = .ok (.iconst 4, 1) := by decide +kernel
theorem dX2_placeAfter_71 : decode cX2_placeAfter 71 = .ok (.ireturn, 1) := by decide +kernel
theorem dX2_placeAfter_72 : decode cX2_placeAfter 72 = .ok (.ldc 38, 2) := by decide +kernel
theorem dX2_placeAfter_74 : decode cX2_placeAfter 74 = .ok (.iload_n 1, 1) := by decide +kernel
theorem dX2_placeAfter_75 : decode cX2_placeAfter 75 = .ok (.invokevirtual 40, 3) := by decide +kernel
theorem dX2_placeAfter_78 : decode cX2_placeAfter 78 = .ok (.ifCond .lt 7, 3) := by decide +kernel
theorem dX2_placeAfter_81 : decode cX2_placeAfter 81 = .ok (.iconst 3, 1) := by decide +kernel
theorem dX2_placeAfter_82 : decode cX2_placeAfter 82 = .ok (.goto 4, 3) := by decide +kernel
theorem dX2_placeAfter_85 : decode cX2_placeAfter 85 = .ok (.iconst 0, 1) := by decide +kernel
theorem dX2_placeAfter_86 : decode cX2_placeAfter 86 = .ok (.ireturn, 1) := by decide +kernel
theorem dX2_modesAfter_0 : decode cX2_modesAfter 0 = .ok (.iload_n 1, 1) := by decide +kernel
theorem dX2_modesAfter_1 : decode cX2_modesAfter 1 = .ok (.istore_n 2, 1) := by decide +kernel
theorem dX2_modesAfter_2 : decode cX2_modesAfter 2 = .ok (.iconst 0, 1) := by decide +kernel
theorem dX2_modesAfter_3 : decode cX2_modesAfter 3 = .ok (.istore_n 3, 1) := by decide +kernel
theorem dX2_modesAfter_4 : decode cX2_modesAfter 4 = .ok (.iconst 0, 1) := by decide +kernel
theorem dX2_modesAfter_5 : decode cX2_modesAfter 5 = .ok (.istore 4, 2) := by decide +kernel
theorem dX2_modesAfter_7 : decode cX2_modesAfter 7 = .ok (.iload 4, 2) := by decide +kernel
theorem dX2_modesAfter_9 : decode cX2_modesAfter 9 = .ok (.aload_n 0, 1) := by decide +kernel
theorem dX2_modesAfter_10 : decode cX2_modesAfter 10 = .ok (.getfield 15, 3) := by decide +kernel
theorem dX2_modesAfter_13 : decode cX2_modesAfter 13 = .ok (.if_icmp .ge 64, 3) := by decide +kernel
theorem dX2_modesAfter_16 : decode cX2_modesAfter 16 = .ok (.aload_n 0, 1) := by decide +kernel
theorem dX2_modesAfter_17 : decode cX2_modesAfter 17 = .ok (.getfield 9, 3) := by decide +kernel
theorem dX2_modesAfter_20 : decode cX2_modesAfter 20 = .ok (.iload 4, 2) := by decide +kernel
theorem dX2_modesAfter_22 : decode cX2_modesAfter 22 = .ok (.caload, 1) := by decide +kernel
theorem dX2_modesAfter_23 : decode cX2_modesAfter 23 = .ok (.istore 5, 2) := by decide +kernel
theorem dX2_modesAfter_25 : decode cX2_modesAfter 25 = .ok (.ldc 38, 2) := by decide +kernel
theorem dX2_modesAfter_27 : decode cX2_modesAfter 27 = .ok (.iload 5, 2) := by decide +kernel
theorem dX2_modesAfter_29 : decode cX2_modesAfter 29 = .ok (.invokevirtual 40, 3) := by decide +kernel
theorem dX2_modesAfter_32 : decode cX2_modesAfter 32 = .ok (.istore 6, 2) := by decide +kernel
theorem dX2_modesAfter_34 : decode cX2_modesAfter 34 = .ok (.iload 5, 2) := by decide +kernel
theorem dX2_modesAfter_36 : decode cX2_modesAfter 36 = .ok (.invokestatic 35, 3) := by decide +kernel
theorem dX2_modesAfter_39 : decode cX2_modesAfter 39 = .ok (.ifCond .eq 19, 3) := by decide +kernel
theorem dX2_modesAfter_42 : decode cX2_modesAfter 42 = .ok (.iload 5, 2) := by decide +kernel
theorem dX2_modesAfter_44 : decode cX2_modesAfter 44 = .ok (.bipush 43, 2) := by decide +kernel
theorem dX2_modesAfter_46 : decode cX2_modesAfter 46 = .ok (.if_icmp .ne 7, 3) := by decide +kernel
theorem dX2_modesAfter_49 : decode cX2_modesAfter 49 = .ok (.iconst 1, 1) := by decide +kernel
theorem dX2_modesAfter_50 : decode cX2_modesAfter 50 = .ok (.goto 4, 3) := by decide +kernel
theorem dX2_modesAfter_53 : decode cX2_modesAfter 53 = .ok (.iconst 0, 1) := by decide +kernel
theorem dX2_modesAfter_54 : decode cX2_modesAfter 54 = .ok (.istore_n 3, 1) := by decide +kernel
theorem dX2_modesAfter_55 : decode cX2_modesAfter 55 = .ok (.goto 16, 3) := by decide +kernel
theorem dX2_modesAfter_58 : decode cX2_modesAfter 58 = .ok (.iload 6, 2) := by decide +kernel
theorem dX2_modesAfter_60 : decode cX2_modesAfter 60 = .ok (.ifCond .lt 11, 3) := by decide +kernel
theorem dX2_modesAfter_63 : decode cX2_modesAfter 63 = .ok (.iload_n 2, 1) := by decide +kernel
theorem dX2_modesAfter_64 : decode cX2_modesAfter 64 = .ok (.iload 6, 2) := by decide +kernel
theorem dX2_modesAfter_66 : decode cX2_modesAfter 66 = .ok (.iload_n 3, 1) := by decide +kernel
theorem dX2_modesAfter_67 : decode cX2_modesAfter 67 = .ok (.invokestatic 46, 3) := by decide +kernel
theorem dX2_modesAfter_70 : decode cX2_modesAfter 70 = .ok (.istore_n 2, 1) := by decide +kernel
theorem dX2_modesAfter_71 : decode cX2_modesAfter 71 = .ok (.iinc 4 1, 3) := by decide +kernel
theorem dX2_modesAfter_74 : decode cX2_modesAfter 74 = .ok (.goto (-67), 3) := by decide +kernel
theorem dX2_modesAfter_77 : decode cX2_modesAfter 77 = .ok (.iload_n 2, 1) := by decide +kernel
theorem dX2_modesAfter_78 : decode cX2_modesAfter 78 = .ok (.ireturn, 1) := by decide +kernel
theorem dX2_operatorsAfter_0 : decode cX2_operatorsAfter 0 = .ok (.iload_n 1, 1) := by decide +kernel
theorem dX2_operatorsAfter_1 : decode cX2_operatorsAfter 1 = .ok (.istore_n 2, 1) := by decide +kernel
theorem dX2_operatorsAfter_2 : decode cX2_operatorsAfter 2 = .ok (.iconst 0, 1) := by decide +kernel
theorem dX2_operatorsAfter_3 : decode cX2_operatorsAfter 3 = .ok (.istore_n 3, 1) := by decide +kernel
theorem dX2_operatorsAfter_4 : decode cX2_operatorsAfter 4 = .ok (.iconst 0, 1) := by decide +kernel
theorem dX2_operatorsAfter_5 : decode cX2_operatorsAfter 5 = .ok (.istore 4, 2) := by decide +kernel
theorem dX2_operatorsAfter_7 : decode cX2_operatorsAfter 7 = .ok (.iload 4, 2) := by decide +kernel
theorem dX2_operatorsAfter_9 : decode cX2_operatorsAfter 9 = .ok (.aload_n 0, 1) := by decide +kernel
theorem dX2_operatorsAfter_10 : decode cX2_operatorsAfter 10 = .ok (.getfield 15, 3) := by decide +kernel
theorem dX2_operatorsAfter_13 : decode cX2_operatorsAfter 13 = .ok (.if_icmp .ge 61, 3) := by decide +kernel
theorem dX2_operatorsAfter_16 : decode cX2_operatorsAfter 16 = .ok (.aload_n 0, 1) := by decide +kernel
theorem dX2_operatorsAfter_17 : decode cX2_operatorsAfter 17 = .ok (.getfield 9, 3) := by decide +kernel
theorem dX2_operatorsAfter_20 : decode cX2_operatorsAfter 20 = .ok (.iload 4, 2) := by decide +kernel
theorem dX2_operatorsAfter_22 : decode cX2_operatorsAfter 22 = .ok (.caload, 1) := by decide +kernel
theorem dX2_operatorsAfter_23 : decode cX2_operatorsAfter 23 = .ok (.istore 5, 2) := by decide +kernel
theorem dX2_operatorsAfter_25 : decode cX2_operatorsAfter 25 = .ok (.iload 5, 2) := by decide +kernel
theorem dX2_operatorsAfter_27 : decode cX2_operatorsAfter 27 = .ok (.invokestatic 35, 3) := by decide +kernel
theorem dX2_operatorsAfter_30 : decode cX2_operatorsAfter 30 = .ok (.ifCond .eq 19, 3) := by decide +kernel
theorem dX2_operatorsAfter_33 : decode cX2_operatorsAfter 33 = .ok (.iload 5, 2) := by decide +kernel
theorem dX2_operatorsAfter_35 : decode cX2_operatorsAfter 35 = .ok (.bipush 43, 2) := by decide +kernel
theorem dX2_operatorsAfter_37 : decode cX2_operatorsAfter 37 = .ok (.if_icmp .ne 7, 3) := by decide +kernel
theorem dX2_operatorsAfter_40 : decode cX2_operatorsAfter 40 = .ok (.iconst 1, 1) := by decide +kernel
theorem dX2_operatorsAfter_41 : decode cX2_operatorsAfter 41 = .ok (.goto 4, 3) := by decide +kernel
theorem dX2_operatorsAfter_44 : decode cX2_operatorsAfter 44 = .ok (.iconst 0, 1) := by decide +kernel
theorem dX2_operatorsAfter_45 : decode cX2_operatorsAfter 45 = .ok (.istore_n 3, 1) := by decide +kernel
theorem dX2_operatorsAfter_46 : decode cX2_operatorsAfter 46 = .ok (.goto 22, 3) := by decide +kernel
theorem dX2_operatorsAfter_49 : decode cX2_operatorsAfter 49 = .ok (.iload 5, 2) := by decide +kernel
theorem dX2_operatorsAfter_51 : decode cX2_operatorsAfter 51 = .ok (.invokestatic 27, 3) := by decide +kernel
theorem dX2_operatorsAfter_54 : decode cX2_operatorsAfter 54 = .ok (.ifCond .eq 14, 3) := by decide +kernel
theorem dX2_operatorsAfter_57 : decode cX2_operatorsAfter 57 = .ok (.iload_n 2, 1) := by decide +kernel
theorem dX2_operatorsAfter_58 : decode cX2_operatorsAfter 58 = .ok (.iload 5, 2) := by decide +kernel
theorem dX2_operatorsAfter_60 : decode cX2_operatorsAfter 60 = .ok (.bipush 48, 2) := by decide +kernel
theorem dX2_operatorsAfter_62 : decode cX2_operatorsAfter 62 = .ok (.isub, 1) := by decide +kernel
theorem dX2_operatorsAfter_63 : decode cX2_operatorsAfter 63 = .ok (.iload_n 3, 1) := by decide +kernel
theorem dX2_operatorsAfter_64 : decode cX2_operatorsAfter 64 = .ok (.invokestatic 46, 3) := by decide +kernel
theorem dX2_operatorsAfter_67 : decode cX2_operatorsAfter 67 = .ok (.istore_n 2, 1) := by decide +kernel
theorem dX2_operatorsAfter_68 : decode cX2_operatorsAfter 68 = .ok (.iinc 4 1, 3) := by decide +kernel
theorem dX2_operatorsAfter_71 : decode cX2_operatorsAfter 71 = .ok (.goto (-64), 3) := by decide +kernel
theorem dX2_operatorsAfter_74 : decode cX2_operatorsAfter 74 = .ok (.iload_n 2, 1) := by decide +kernel
theorem dX2_operatorsAfter_75 : decode cX2_operatorsAfter 75 = .ok (.ireturn, 1) := by decide +kernel
theorem dX2_countItems_0 : decode cX2_countItems 0 = .ok (.iconst 0, 1) := by decide +kernel
theorem dX2_countItems_1 : decode cX2_countItems 1 = .ok (.istore_n 1, 1) := by decide +kernel
theorem dX2_countItems_2 : decode cX2_countItems 2 = .ok (.iconst 0, 1) := by decide +kernel
theorem dX2_countItems_3 : decode cX2_countItems 3 = .ok (.istore_n 2, 1) := by decide +kernel
theorem dX2_countItems_4 : decode cX2_countItems 4 = .ok (.iload_n 2, 1) := by decide +kernel
theorem dX2_countItems_5 : decode cX2_countItems 5 = .ok (.aload_n 0, 1) := by decide +kernel
theorem dX2_countItems_6 : decode cX2_countItems 6 = .ok (.getfield 15, 3) := by decide +kernel
theorem dX2_countItems_9 : decode cX2_countItems 9 = .ok (.if_icmp .ge 33, 3) := by decide +kernel
theorem dX2_countItems_12 : decode cX2_countItems 12 = .ok (.aload_n 0, 1) := by decide +kernel
theorem dX2_countItems_13 : decode cX2_countItems 13 = .ok (.getfield 9, 3) := by decide +kernel
theorem dX2_countItems_16 : decode cX2_countItems 16 = .ok (.iload_n 2, 1) := by decide +kernel
theorem dX2_countItems_17 : decode cX2_countItems 17 = .ok (.caload, 1) := by decide +kernel
theorem dX2_countItems_18 : decode cX2_countItems 18 = .ok (.istore_n 3, 1) := by decide +kernel
theorem dX2_countItems_19 : decode cX2_countItems 19 = .ok (.iload_n 3, 1) := by decide +kernel
theorem dX2_countItems_20 : decode cX2_countItems 20 = .ok (.invokestatic 35, 3) := by decide +kernel
theorem dX2_countItems_23 : decode cX2_countItems 23 = .ok (.ifCond .ne 13, 3) := by decide +kernel
theorem dX2_countItems_26 : decode cX2_countItems 26 = .ok (.iload_n 3, 1) := by decide +kernel
theorem dX2_countItems_27 : decode cX2_countItems 27 = .ok (.invokestatic 27, 3) := by decide +kernel
theorem dX2_countItems_30 : decode cX2_countItems 30 = .ok (.ifCond .ne 6, 3) := by decide +kernel
theorem dX2_countItems_33 : decode cX2_countItems 33 = .ok (.iinc 1 1, 3) := by decide +kernel
theorem dX2_countItems_36 : decode cX2_countItems 36 = .ok (.iinc 2 1, 3) := by decide +kernel
theorem dX2_countItems_39 : decode cX2_countItems 39 = .ok (.goto (-35), 3) := by decide +kernel
theorem dX2_countItems_42 : decode cX2_countItems 42 = .ok (.iload_n 1, 1) := by decide +kernel
theorem dX2_countItems_43 : decode cX2_countItems 43 = .ok (.ireturn, 1) := by decide +kernel
theorem dX2_isSign_0 : decode cX2_isSign 0 = .ok (.iload_n 0, 1) := by decide +kernel
theorem dX2_isSign_1 : decode cX2_isSign 1 = .ok (.bipush 43, 2) := by decide +kernel
theorem dX2_isSign_3 : decode cX2_isSign 3 = .ok (.if_icmp .eq 9, 3) := by decide +kernel
theorem dX2_isSign_6 : decode cX2_isSign 6 = .ok (.iload_n 0, 1) := by decide +kernel
theorem dX2_isSign_7 : decode cX2_isSign 7 = .ok (.bipush 45, 2) := by decide +kernel
theorem dX2_isSign_9 : decode cX2_isSign 9 = .ok (.if_icmp .ne 7, 3) := by decide +kernel
theorem dX2_isSign_12 : decode cX2_isSign 12 = .ok (.iconst 1, 1) := by decide +kernel
theorem dX2_isSign_13 : decode cX2_isSign 13 = .ok (.goto 4, 3) := by decide +kernel
theorem dX2_isSign_16 : decode cX2_isSign 16 = .ok (.iconst 0, 1) := by decide +kernel
theorem dX2_isSign_17 : decode cX2_isSign 17 = .ok (.ireturn, 1) := by decide +kernel
theorem dX2_isDigit_0 : decode cX2_isDigit 0 = .ok (.iload_n 0, 1) := by decide +kernel
theorem dX2_isDigit_1 : decode cX2_isDigit 1 = .ok (.bipush 48, 2) := by decide +kernel
theorem dX2_isDigit_3 : decode cX2_isDigit 3 = .ok (.if_icmp .lt 13, 3) := by decide +kernel
theorem dX2_isDigit_6 : decode cX2_isDigit 6 = .ok (.iload_n 0, 1) := by decide +kernel
theorem dX2_isDigit_7 : decode cX2_isDigit 7 = .ok (.bipush 57, 2) := by decide +kernel
theorem dX2_isDigit_9 : decode cX2_isDigit 9 = .ok (.if_icmp .gt 7, 3) := by decide +kernel
theorem dX2_isDigit_12 : decode cX2_isDigit 12 = .ok (.iconst 1, 1) := by decide +kernel
theorem dX2_isDigit_13 : decode cX2_isDigit 13 = .ok (.goto 4, 3) := by decide +kernel
theorem dX2_isDigit_16 : decode cX2_isDigit 16 = .ok (.iconst 0, 1) := by decide +kernel
theorem dX2_isDigit_17 : decode cX2_isDigit 17 = .ok (.ireturn, 1) := by decide +kernel
theorem dX3_init_0 : decode cX3_init 0 = .ok (.aload_n 0, 1) := by decide +kernel
theorem dX3_init_1 : decode cX3_init 1 = .ok (.invokespecial 3, 3) := by decide +kernel
theorem dX3_init_4 : decode cX3_init 4 = .ok (.aload_n 0, 1) := by decide +kernel
theorem dX3_init_5 : decode cX3_init 5 = .ok (.bipush 6, 2) := by decide +kernel
theorem dX3_init_7 : decode cX3_init 7 = .ok (.bipush 60, 2) := by decide +kernel
theorem dX3_init_9 : decode cX3_init 9 = .ok (.multianewarray 9 2, 4) := by decide +kernel
theorem dX3_init_13 : decode cX3_init 13 = .ok (.putfield 11, 3) := by decide +kernel
theorem dX3_init_16 : decode cX3_init 16 = .ok (.aload_n 0, 1) := by decide +kernel
theorem dX3_init_17 : decode cX3_init 17 = .ok (.bipush 6, 2) := by decide +kernel
theorem dX3_init_19 : decode cX3_init 19 = .ok (.newarray .int, 2) := by decide +kernel
theorem dX3_init_21 : decode cX3_init 21 = .ok (.putfield 16, 3) := by decide +kernel
theorem dX3_init_24 : decode cX3_init 24 = .ok (.aload_n 0, 1) := by decide +kernel
theorem dX3_init_25 : decode cX3_init 25 = .ok (.bipush (-9), 2) := by decide +kernel
theorem dX3_init_27 : decode cX3_init 27 = .ok (.putfield 20, 3) := by decide +kernel
theorem dX3_init_30 : decode cX3_init 30 = .ok (.aload_n 0, 1) := by decide +kernel
theorem dX3_init_31 : decode cX3_init 31 = .ok (.bipush (-9), 2) := by decide +kernel
theorem dX3_init_33 : decode cX3_init 33 = .ok (.putfield 24, 3) := by decide +kernel
theorem dX3_init_36 : decode cX3_init 36 = .ok (.aload_n 0, 1) := by decide +kernel
theorem dX3_init_37 : decode cX3_init 37 = .ok (.iconst 0, 1) := by decide +kernel
theorem dX3_init_38 : decode cX3_init 38 = .ok (.putfield 27, 3) := by decide +kernel
theorem dX3_init_41 : decode cX3_init 41 = .ok (.return_, 1) := by decide +kernel
theorem dX3_findBest_0 : decode cX3_findBest 0 = .ok (.aload_n 0, 1) := by decide +kernel
theorem dX3_findBest_1 : decode cX3_findBest 1 = .ok (.bipush (-9), 2) := by decide +kernel
theorem dX3_findBest_3 : decode cX3_findBest 3 = .ok (.putfield 20, 3) := by decide +kernel
theorem dX3_findBest_6 : decode cX3_findBest 6 = .ok (.aload_n 0, 1) := by decide +kernel
theorem dX3_findBest_7 : decode cX3_findBest 7 = .ok (.iconst (-1), 1) := by decide +kernel
theorem dX3_findBest_8 : decode cX3_findBest 8 = .ok (.putfield 27, 3) := by decide +kernel
theorem dX3_findBest_11 : decode cX3_findBest 11 = .ok (.aload_n 0, 1) := by decide +kernel
theorem dX3_findBest_12 : decode cX3_findBest 12 = .ok (.iconst 0, 1) := by decide +kernel
theorem dX3_findBest_13 : decode cX3_findBest 13 = .ok (.aload_n 0, 1) := by decide +kernel
theorem dX3_findBest_14 : decode cX3_findBest 14 = .ok (.aload_n 1, 1) := by decide +kernel
theorem dX3_findBest_15 : decode cX3_findBest 15 = .ok (.invokevirtual 30, 3) := by decide +kernel
theorem dX3_findBest_18 : decode cX3_findBest 18 = .ok (.invokevirtual 34, 3) := by decide +kernel
theorem dX3_findBest_21 : decode cX3_findBest 21 = .ok (.return_, 1) := by decide +kernel
theorem dX3_load_0 : decode cX3_load 0 = .ok (.iconst 0, 1) := by decide +kernel
theorem dX3_load_1 : decode cX3_load 1 = .ok (.istore_n 2, 1) := by decide +kernel
theorem dX3_load_2 : decode cX3_load 2 = .ok (.iconst 0, 1) := by decide +kernel
theorem dX3_load_3 : decode cX3_load 3 = .ok (.istore_n 3, 1) := by decide +kernel
theorem dX3_load_4 : decode cX3_load 4 = .ok (.iconst 0, 1) := by decide +kernel
theorem dX3_load_5 : decode cX3_load 5 = .ok (.istore 4, 2) := by decide +kernel
theorem dX3_load_7 : decode cX3_load 7 = .ok (.iload 4, 2) := by decide +kernel
theorem dX3_load_9 : decode cX3_load 9 = .ok (.bipush 6, 2) := by decide +kernel
theorem dX3_load_11 : decode cX3_load 11 = .ok (.if_icmp .ge 89, 3) := by decide +kernel
theorem dX3_load_14 : decode cX3_load 14 = .ok (.aload_n 1, 1) := by decide +kernel
theorem dX3_load_15 : decode cX3_load 15 = .ok (.iload 4, 2) := by decide +kernel
theorem dX3_load_17 : decode cX3_load 17 = .ok (.invokevirtual 38, 3) := by decide +kernel
theorem dX3_load_20 : decode cX3_load 20 = .ok (.ifCond .eq 74, 3) := by decide +kernel
theorem dX3_load_23 : decode cX3_load 23 = .ok (.iload_n 3, 1) := by decide +kernel
theorem dX3_load_24 : decode cX3_load 24 = .ok (.iload 4, 2) := by decide +kernel
theorem dX3_load_26 : decode cX3_load 26 = .ok (.invokestatic 44, 3) := by decide +kernel
theorem dX3_load_29 : decode cX3_load 29 = .ok (.ifCond .ne 65, 3) := by decide +kernel
theorem dX3_load_32 : decode cX3_load 32 = .ok (.aload_n 1, 1) := by decide +kernel
theorem dX3_load_33 : decode cX3_load 33 = .ok (.iload 4, 2) := by decide +kernel
theorem dX3_load_35 : decode cX3_load 35 = .ok (.invokevirtual 48, 3) := by decide +kernel
theorem dX3_load_38 : decode cX3_load 38 = .ok (.istore 5, 2) := by decide +kernel
theorem dX3_load_40 : decode cX3_load 40 = .ok (.iconst 0, 1) := by decide +kernel
theorem dX3_load_41 : decode cX3_load 41 = .ok (.istore 6, 2) := by decide +kernel
theorem dX3_load_43 : decode cX3_load 43 = .ok (.iload 6, 2) := by decide +kernel
theorem dX3_load_45 : decode cX3_load 45 = .ok (.bipush 10, 2) := by decide +kernel
theorem dX3_load_47 : decode cX3_load 47 = .ok (.if_icmp .ge 31, 3) := by decide +kernel
theorem dX3_load_50 : decode cX3_load 50 = .ok (.aload_n 0, 1) := by decide +kernel
theorem dX3_load_51 : decode cX3_load 51 = .ok (.getfield 11, 3) := by decide +kernel
theorem dX3_load_54 : decode cX3_load 54 = .ok (.iconst 0, 1) := by decide +kernel
theorem dX3_load_55 : decode cX3_load 55 = .ok (.aaload, 1) := by decide +kernel
theorem dX3_load_56 : decode cX3_load 56 = .ok (.iload_n 2, 1) := by decide +kernel
theorem dX3_load_57 : decode cX3_load 57 = .ok (.bipush 10, 2) := by decide +kernel
theorem dX3_load_59 : decode cX3_load 59 = .ok (.imul, 1) := by decide +kernel
theorem dX3_load_60 : decode cX3_load 60 = .ok (.iload 6, 2) := by decide +kernel
theorem dX3_load_62 : decode cX3_load 62 = .ok (.iadd, 1) := by decide +kernel
theorem dX3_load_63 : decode cX3_load 63 = .ok (.aload_n 1, 1) := by decide +kernel
theorem dX3_load_64 : decode cX3_load 64 = .ok (.iload 5, 2) := by decide +kernel
theorem dX3_load_66 : decode cX3_load 66 = .ok (.iload 6, 2) := by decide +kernel
theorem dX3_load_68 : decode cX3_load 68 = .ok (.invokevirtual 52, 3) := by decide +kernel
theorem dX3_load_71 : decode cX3_load 71 = .ok (.iastore, 1) := by decide +kernel
theorem dX3_load_72 : decode cX3_load 72 = .ok (.iinc 6 1, 3) := by decide +kernel
theorem dX3_load_75 : decode cX3_load 75 = .ok (.goto (-32), 3) := by decide +kernel
theorem dX3_load_78 : decode cX3_load 78 = .ok (.aload_n 0, 1) := by decide +kernel
theorem dX3_load_79 : decode cX3_load 79 = .ok (.getfield 16, 3) := by decide +kernel
theorem dX3_load_82 : decode cX3_load 82 = .ok (.iload_n 2, 1) := by decide +kernel
theorem dX3_load_83 : decode cX3_load 83 = .ok (.iload 4, 2) := by decide +kernel
theorem dX3_load_85 : decode cX3_load 85 = .ok (.iastore, 1) := by decide +kernel
theorem dX3_load_86 : decode cX3_load 86 = .ok (.iinc 2 1, 3) := by decide +kernel
theorem dX3_load_89 : decode cX3_load 89 = .ok (.iload_n 3, 1) := by decide +kernel
theorem dX3_load_90 : decode cX3_load 90 = .ok (.iload 5, 2) := by decide +kernel
theorem dX3_load_92 : decode cX3_load 92 = .ok (.ior, 1) := by decide +kernel
theorem dX3_load_93 : decode cX3_load 93 = .ok (.istore_n 3, 1) := by decide +kernel
theorem dX3_load_94 : decode cX3_load 94 = .ok (.iinc 4 1, 3) := by decide +kernel
theorem dX3_load_97 : decode cX3_load 97 = .ok (.goto (-90), 3) := by decide +kernel
theorem dX3_load_100 : decode cX3_load 100 = .ok (.iload_n 2, 1) := by decide +kernel
theorem dX3_load_101 : decode cX3_load 101 = .ok (.ireturn, 1) := by decide +kernel
theorem dX3_search_0 : decode cX3_search 0 = .ok (.iload_n 1, 1) := by decide +kernel
theorem dX3_search_1 : decode cX3_search 1 = .ok (.bipush 6, 2) := by decide +kernel
theorem dX3_search_3 : decode cX3_search 3 = .ok (.if_icmp .lt 4, 3) := by decide +kernel
theorem dX3_search_6 : decode cX3_search 6 = .ok (.return_, 1) := by decide +kernel
theorem dX3_search_7 : decode cX3_search 7 = .ok (.aload_n 0, 1) := by decide +kernel
theorem dX3_search_8 : decode cX3_search 8 = .ok (.getfield 11, 3) := by decide +kernel
theorem dX3_search_11 : decode cX3_search 11 = .ok (.iload_n 1, 1) := by decide +kernel
theorem dX3_search_12 : decode cX3_search 12 = .ok (.aaload, 1) := by decide +kernel
theorem dX3_search_13 : decode cX3_search 13 = .ok (.iload_n 2, 1) := by decide +kernel
theorem dX3_search_14 : decode cX3_search 14 = .ok (.invokestatic 56, 3) := by decide +kernel
theorem dX3_search_17 : decode cX3_search 17 = .ok (.istore_n 3, 1) := by decide +kernel
theorem dX3_search_18 : decode cX3_search 18 = .ok (.iload_n 3, 1) := by decide +kernel
theorem dX3_search_19 : decode cX3_search 19 = .ok (.aload_n 0, 1) := by decide +kernel
theorem dX3_search_20 : decode cX3_search 20 = .ok (.getfield 27, 3) := by decide +kernel
theorem dX3_search_23 : decode cX3_search 23 = .ok (.if_icmp .gt 4, 3) := by decide +kernel
theorem dX3_search_26 : decode cX3_search 26 = .ok (.return_, 1) := by decide +kernel
theorem dX3_search_27 : decode cX3_search 27 = .ok (.iload_n 2, 1) := by decide +kernel
theorem dX3_search_28 : decode cX3_search 28 = .ok (.iconst 1, 1) := by decide +kernel
theorem dX3_search_29 : decode cX3_search 29 = .ok (.if_icmp .le 12, 3) := by decide +kernel
theorem dX3_search_32 : decode cX3_search 32 = .ok (.aload_n 0, 1) := by decide +kernel
theorem dX3_search_33 : decode cX3_search 33 = .ok (.iload_n 1, 1) := by decide +kernel
theorem dX3_search_34 : decode cX3_search 34 = .ok (.iload_n 2, 1) := by decide +kernel
theorem dX3_search_35 : decode cX3_search 35 = .ok (.invokevirtual 60, 3) := by decide +kernel
theorem dX3_search_38 : decode cX3_search 38 = .ok (.goto 16, 3) := by decide +kernel
theorem dX3_search_41 : decode cX3_search 41 = .ok (.aload_n 0, 1) := by decide +kernel
theorem dX3_search_42 : decode cX3_search 42 = .ok (.iload_n 3, 1) := by decide +kernel
theorem dX3_search_43 : decode cX3_search 43 = .ok (.putfield 27, 3) := by decide +kernel
theorem dX3_search_46 : decode cX3_search 46 = .ok (.aload_n 0, 1) := by decide +kernel
theorem dX3_search_47 : decode cX3_search 47 = .ok (.aload_n 0, 1) := by decide +kernel
theorem dX3_search_48 : decode cX3_search 48 = .ok (.getfield 20, 3) := by decide +kernel
theorem dX3_search_51 : decode cX3_search 51 = .ok (.putfield 24, 3) := by decide +kernel
theorem dX3_search_54 : decode cX3_search 54 = .ok (.return_, 1) := by decide +kernel
theorem dX3_tryLinks_0 : decode cX3_tryLinks 0 = .ok (.iconst 0, 1) := by decide +kernel
theorem dX3_tryLinks_1 : decode cX3_tryLinks 1 = .ok (.istore_n 3, 1) := by decide +kernel
theorem dX3_tryLinks_2 : decode cX3_tryLinks 2 = .ok (.iload_n 3, 1) := by decide +kernel
theorem dX3_tryLinks_3 : decode cX3_tryLinks 3 = .ok (.iload_n 2, 1) := by decide +kernel
theorem dX3_tryLinks_4 : decode cX3_tryLinks 4 = .ok (.if_icmp .ge 90, 3) := by decide +kernel
theorem dX3_tryLinks_7 : decode cX3_tryLinks 7 = .ok (.iload_n 3, 1) := by decide +kernel
theorem dX3_tryLinks_8 : decode cX3_tryLinks 8 = .ok (.iconst 1, 1) := by decide +kernel
theorem dX3_tryLinks_9 : decode cX3_tryLinks 9 = .ok (.iadd, 1) := by decide +kernel
theorem dX3_tryLinks_10 : decode cX3_tryLinks 10 = .ok (.istore 4, 2) := by decide +kernel
theorem dX3_tryLinks_12 : decode cX3_tryLinks 12 = .ok (.iload 4, 2) := by decide +kernel
theorem dX3_tryLinks_14 : decode cX3_tryLinks 14 = .ok (.iload_n 2, 1) := by decide +kernel
theorem dX3_tryLinks_15 : decode cX3_tryLinks 15 = .ok (.if_icmp .ge 73, 3) := by decide +kernel
theorem dX3_tryLinks_18 : decode cX3_tryLinks 18 = .ok (.iload_n 1, 1) := by decide +kernel
theorem dX3_tryLinks_19 : decode cX3_tryLinks 19 = .ok (.ifCond .ne 24, 3) := by decide +kernel
theorem dX3_tryLinks_22 : decode cX3_tryLinks 22 = .ok (.aload_n 0, 1) := by decide +kernel
theorem dX3_tryLinks_23 : decode cX3_tryLinks 23 = .ok (.bipush 10, 2) := by decide +kernel
theorem dX3_tryLinks_25 : decode cX3_tryLinks 25 = .ok (.aload_n 0, 1) := by decide +kernel
theorem dX3_tryLinks_26 : decode cX3_tryLinks 26 = .ok (.getfield 16, 3) := by decide +kernel
theorem dX3_tryLinks_29 : decode cX3_tryLinks 29 = .ok (.iload_n 3, 1) := by decide +kernel
theorem dX3_tryLinks_30 : decode cX3_tryLinks 30 = .ok (.iaload, 1) := by decide +kernel
theorem dX3_tryLinks_31 : decode cX3_tryLinks 31 = .ok (.imul, 1) := by decide +kernel
theorem dX3_tryLinks_32 : decode cX3_tryLinks 32 = .ok (.aload_n 0, 1) := by decide +kernel
theorem dX3_tryLinks_33 : decode cX3_tryLinks 33 = .ok (.getfield 16, 3) := by decide +kernel
theorem dX3_tryLinks_36 : decode cX3_tryLinks 36 = .ok (.iload 4, 2) := by decide +kernel
theorem dX3_tryLinks_38 : decode cX3_tryLinks 38 = .ok (.iaload, 1) := by decide +kernel
theorem dX3_tryLinks_39 : decode cX3_tryLinks 39 = .ok (.iadd, 1) := by decide +kernel
theorem dX3_tryLinks_40 : decode cX3_tryLinks 40 = .ok (.putfield 20, 3) := by decide +kernel
theorem dX3_tryLinks_43 : decode cX3_tryLinks 43 = .ok (.iload_n 1, 1) := by decide +kernel
theorem dX3_tryLinks_44 : decode cX3_tryLinks 44 = .ok (.iconst 1, 1) := by decide +kernel
theorem dX3_tryLinks_45 : decode cX3_tryLinks 45 = .ok (.iadd, 1) := by decide +kernel
theorem dX3_tryLinks_46 : decode cX3_tryLinks 46 = .ok (.bipush 6, 2) := by decide +kernel
theorem dX3_tryLinks_48 : decode cX3_tryLinks 48 = .ok (.if_icmp .ge 34, 3) := by decide +kernel
theorem dX3_tryLinks_51 : decode cX3_tryLinks 51 = .ok (.aload_n 0, 1) := by decide +kernel
theorem dX3_tryLinks_52 : decode cX3_tryLinks 52 = .ok (.getfield 11, 3) := by decide +kernel
theorem dX3_tryLinks_55 : decode cX3_tryLinks 55 = .ok (.iload_n 1, 1) := by decide +kernel
theorem dX3_tryLinks_56 : decode cX3_tryLinks 56 = .ok (.aaload, 1) := by decide +kernel
theorem dX3_tryLinks_57 : decode cX3_tryLinks 57 = .ok (.aload_n 0, 1) := by decide +kernel
theorem dX3_tryLinks_58 : decode cX3_tryLinks 58 = .ok (.getfield 11, 3) := by decide +kernel
theorem dX3_tryLinks_61 : decode cX3_tryLinks 61 = .ok (.iload_n 1, 1) := by decide +kernel
theorem dX3_tryLinks_62 : decode cX3_tryLinks 62 = .ok (.iconst 1, 1) := by decide +kernel
theorem dX3_tryLinks_63 : decode cX3_tryLinks 63 = .ok (.iadd, 1) := by decide +kernel
theorem dX3_tryLinks_64 : decode cX3_tryLinks 64 = .ok (.aaload, 1) := by decide +kernel
theorem dX3_tryLinks_65 : decode cX3_tryLinks 65 = .ok (.iload_n 2, 1) := by decide +kernel
theorem dX3_tryLinks_66 : decode cX3_tryLinks 66 = .ok (.iload_n 3, 1) := by decide +kernel
theorem dX3_tryLinks_67 : decode cX3_tryLinks 67 = .ok (.iload 4, 2) := by decide +kernel
theorem dX3_tryLinks_69 : decode cX3_tryLinks 69 = .ok (.invokestatic 63, 3) := by decide +kernel
theorem dX3_tryLinks_72 : decode cX3_tryLinks 72 = .ok (.aload_n 0, 1) := by decide +kernel
theorem dX3_tryLinks_73 : decode cX3_tryLinks 73 = .ok (.iload_n 1, 1) := by decide +kernel
theorem dX3_tryLinks_74 : decode cX3_tryLinks 74 = .ok (.iconst 1, 1) := by decide +kernel
theorem dX3_tryLinks_75 : decode cX3_tryLinks 75 = .ok (.iadd, 1) := by decide +kernel
theorem dX3_tryLinks_76 : decode cX3_tryLinks 76 = .ok (.iload_n 2, 1) := by decide +kernel
theorem dX3_tryLinks_77 : decode cX3_tryLinks 77 = .ok (.iconst 1, 1) := by decide +kernel
theorem dX3_tryLinks_78 : decode cX3_tryLinks 78 = .ok (.isub, 1) := by decide +kernel
theorem dX3_tryLinks_79 : decode cX3_tryLinks 79 = .ok (.invokevirtual 34, 3) := by decide +kernel
theorem dX3_tryLinks_82 : decode cX3_tryLinks 82 = .ok (.iinc 4 1, 3) := by decide +kernel
theorem dX3_tryLinks_85 : decode cX3_tryLinks 85 = .ok (.goto (-73), 3) := by decide +kernel
theorem dX3_tryLinks_88 : decode cX3_tryLinks 88 = .ok (.iinc 3 1, 3) := by decide +kernel
theorem dX3_tryLinks_91 : decode cX3_tryLinks 91 = .ok (.goto (-89), 3) := by decide +kernel
theorem dX3_tryLinks_94 : decode cX3_tryLinks 94 = .ok (.return_, 1) := by decide +kernel
theorem dX3_mergeRows_0 : decode cX3_mergeRows 0 = .ok (.iconst 0, 1) := by decide +kernel
theorem dX3_mergeRows_1 : decode cX3_mergeRows 1 = .ok (.istore 5, 2) := by decide +kernel
theorem dX3_mergeRows_3 : decode cX3_mergeRows 3 = .ok (.iconst 0, 1) := by decide +kernel
theorem dX3_mergeRows_4 : decode cX3_mergeRows 4 = .ok (.istore 6, 2) := by decide +kernel
theorem dX3_mergeRows_6 : decode cX3_mergeRows 6 = .ok (.iload 6, 2) := by decide +kernel
theorem dX3_mergeRows_8 : decode cX3_mergeRows 8 = .ok (.iload_n 2, 1) := by decide +kernel
theorem dX3_mergeRows_9 : decode cX3_mergeRows 9 = .ok (.if_icmp .ge 36, 3) := by decide +kernel
theorem dX3_mergeRows_12 : decode cX3_mergeRows 12 = .ok (.iload 6, 2) := by decide +kernel
theorem dX3_mergeRows_14 : decode cX3_mergeRows 14 = .ok (.iload 4, 2) := by decide +kernel
theorem dX3_mergeRows_16 : decode cX3_mergeRows 16 = .ok (.if_icmp .eq 23, 3) := by decide +kernel
theorem dX3_mergeRows_19 : decode cX3_mergeRows 19 = .ok (.aload_n 0, 1) := by decide +kernel
theorem dX3_mergeRows_20 : decode cX3_mergeRows 20 = .ok (.iload 6, 2) := by decide +kernel
theorem dX3_mergeRows_22 : decode cX3_mergeRows 22 = .ok (.bipush 10, 2) := by decide +kernel
theorem dX3_mergeRows_24 : decode cX3_mergeRows 24 = .ok (.imul, 1) := by decide +kernel
theorem dX3_mergeRows_25 : decode cX3_mergeRows 25 = .ok (.aload_n 1, 1) := by decide +kernel
theorem dX3_mergeRows_26 : decode cX3_mergeRows 26 = .ok (.iload 5, 2) := by decide +kernel
theorem dX3_mergeRows_28 : decode cX3_mergeRows 28 = .ok (.bipush 10, 2) := by decide +kernel
theorem dX3_mergeRows_30 : decode cX3_mergeRows 30 = .ok (.imul, 1) := by decide +kernel
theorem dX3_mergeRows_31 : decode cX3_mergeRows 31 = .ok (.bipush 10, 2) := by decide +kernel
theorem dX3_mergeRows_33 : decode cX3_mergeRows 33 = .ok (.invokestatic 67, 3) := by decide +kernel
theorem dX3_mergeRows_36 : decode cX3_mergeRows 36 = .ok (.iinc 5 1, 3) := by decide +kernel
theorem dX3_mergeRows_39 : decode cX3_mergeRows 39 = .ok (.iinc 6 1, 3) := by decide +kernel
theorem dX3_mergeRows_42 : decode cX3_mergeRows 42 = .ok (.goto (-36), 3) := by decide +kernel
theorem dX3_mergeRows_45 : decode cX3_mergeRows 45 = .ok (.iconst 0, 1) := by decide +kernel
theorem dX3_mergeRows_46 : decode cX3_mergeRows 46 = .ok (.istore 6, 2) := by decide +kernel
theorem dX3_mergeRows_48 : decode cX3_mergeRows 48 = .ok (.iload 6, 2) := by decide +kernel
theorem dX3_mergeRows_50 : decode cX3_mergeRows 50 = .ok (.bipush 10, 2) := by decide +kernel
theorem dX3_mergeRows_52 : decode cX3_mergeRows 52 = .ok (.if_icmp .ge 40, 3) := by decide +kernel
theorem dX3_mergeRows_55 : decode cX3_mergeRows 55 = .ok (.aload_n 1, 1) := by decide +kernel
theorem dX3_mergeRows_56 : decode cX3_mergeRows 56 = .ok (.iload_n 3, 1) := by decide +kernel
theorem dX3_mergeRows_57 : decode cX3_mergeRows 57 = .ok (.bipush 10, 2) := by decide +kernel
theorem dX3_mergeRows_59 : decode cX3_mergeRows 59 = .ok (.imul, 1) := by decide +kernel
theorem dX3_mergeRows_60 : decode cX3_mergeRows 60 = .ok (.iload 6, 2) := by decide +kernel
theorem dX3_mergeRows_62 : decode cX3_mergeRows 62 = .ok (.iadd, 1) := by decide +kernel
theorem dX3_mergeRows_63 : decode cX3_mergeRows 63 = .ok (.aload_n 0, 1) := by decide +kernel
theorem dX3_mergeRows_64 : decode cX3_mergeRows 64 = .ok (.iload_n 3, 1) := by decide +kernel
theorem dX3_mergeRows_65 : decode cX3_mergeRows 65 = .ok (.bipush 10, 2) := by decide +kernel
theorem dX3_mergeRows_67 : decode cX3_mergeRows 67 = .ok (.imul, 1) := by decide +kernel
theorem dX3_mergeRows_68 : decode cX3_mergeRows 68 = .ok (.iload 6, 2) := by decide +kernel
theorem dX3_mergeRows_70 : decode cX3_mergeRows 70 = .ok (.iadd, 1) := by decide +kernel
theorem dX3_mergeRows_71 : decode cX3_mergeRows 71 = .ok (.iaload, 1) := by decide +kernel
theorem dX3_mergeRows_72 : decode cX3_mergeRows 72 = .ok (.aload_n 0, 1) := by decide +kernel
theorem dX3_mergeRows_73 : decode cX3_mergeRows 73 = .ok (.iload 4, 2) := by decide +kernel
theorem dX3_mergeRows_75 : decode cX3_mergeRows 75 = .ok (.bipush 10, 2) := by decide +kernel
theorem dX3_mergeRows_77 : decode cX3_mergeRows 77 = .ok (.imul, 1) := by decide +kernel
theorem dX3_mergeRows_78 : decode cX3_mergeRows 78 = .ok (.iload 6, 2) := by decide +kernel
theorem dX3_mergeRows_80 : decode cX3_mergeRows 80 = .ok (.iadd, 1) := by decide +kernel
theorem dX3_mergeRows_81 : decode cX3_mergeRows 81 = .ok (.iaload, 1) := by decide +kernel
theorem dX3_mergeRows_82 : decode cX3_mergeRows 82 = .ok (.invokestatic 73, 3) := by decide +kernel
theorem dX3_mergeRows_85 : decode cX3_mergeRows 85 = .ok (.iastore, 1) := by decide +kernel
theorem dX3_mergeRows_86 : decode cX3_mergeRows 86 = .ok (.iinc 6 1, 3) := by decide +kernel
theorem dX3_mergeRows_89 : decode cX3_mergeRows 89 = .ok (.goto (-41), 3) := by decide +kernel
theorem dX3_mergeRows_92 : decode cX3_mergeRows 92 = .ok (.return_, 1) := by decide +kernel
theorem dX3_countHopes_0 : decode cX3_countHopes 0 = .ok (.iconst 0, 1) := by decide +kernel
theorem dX3_countHopes_1 : decode cX3_countHopes 1 = .ok (.istore_n 2, 1) := by decide +kernel
theorem dX3_countHopes_2 : decode cX3_countHopes 2 = .ok (.iconst 0, 1) := by decide +kernel
theorem dX3_countHopes_3 : decode cX3_countHopes 3 = .ok (.istore_n 3, 1) := by decide +kernel
theorem dX3_countHopes_4 : decode cX3_countHopes 4 = .ok (.iload_n 3, 1) := by decide +kernel
theorem dX3_countHopes_5 : decode cX3_countHopes 5 = .ok (.bipush 10, 2) := by decide +kernel
theorem dX3_countHopes_7 : decode cX3_countHopes 7 = .ok (.if_icmp .ge 21, 3) := by decide +kernel
theorem dX3_countHopes_10 : decode cX3_countHopes 10 = .ok (.aload_n 0, 1) := by decide +kernel
theorem dX3_countHopes_11 : decode cX3_countHopes 11 = .ok (.iload_n 1, 1) := by decide +kernel
theorem dX3_countHopes_12 : decode cX3_countHopes 12 = .ok (.iload_n 3, 1) := by decide +kernel
theorem dX3_countHopes_13 : decode cX3_countHopes 13 = .ok (.invokestatic 78, 3) := by decide +kernel
theorem dX3_countHopes_16 : decode cX3_countHopes 16 = .ok (.ifCond .eq 6, 3) := by decide +kernel
theorem dX3_countHopes_19 : decode cX3_countHopes 19 = .ok (.iinc 2 1, 3) := by decide +kernel
theorem dX3_countHopes_22 : decode cX3_countHopes 22 = .ok (.iinc 3 1, 3) := by decide +kernel
theorem dX3_countHopes_25 : decode cX3_countHopes 25 = .ok (.goto (-21), 3) := by decide +kernel
theorem dX3_countHopes_28 : decode cX3_countHopes 28 = .ok (.iload_n 2, 1) := by decide +kernel
theorem dX3_countHopes_29 : decode cX3_countHopes 29 = .ok (.ireturn, 1) := by decide +kernel
theorem dX3_mayBeLeft_0 : decode cX3_mayBeLeft 0 = .ok (.iconst 0, 1) := by decide +kernel
theorem dX3_mayBeLeft_1 : decode cX3_mayBeLeft 1 = .ok (.istore_n 3, 1) := by decide +kernel
theorem dX3_mayBeLeft_2 : decode cX3_mayBeLeft 2 = .ok (.iconst (-1), 1) := by decide +kernel
theorem dX3_mayBeLeft_3 : decode cX3_mayBeLeft 3 = .ok (.istore 4, 2) := by decide +kernel
theorem dX3_mayBeLeft_5 : decode cX3_mayBeLeft 5 = .ok (.iconst 0, 1) := by decide +kernel
theorem dX3_mayBeLeft_6 : decode cX3_mayBeLeft 6 = .ok (.istore 5, 2) := by decide +kernel
theorem dX3_mayBeLeft_8 : decode cX3_mayBeLeft 8 = .ok (.iconst 0, 1) := by decide +kernel
theorem dX3_mayBeLeft_9 : decode cX3_mayBeLeft 9 = .ok (.istore 6, 2) := by decide +kernel
theorem dX3_mayBeLeft_11 : decode cX3_mayBeLeft 11 = .ok (.iload 6, 2) := by decide +kernel
theorem dX3_mayBeLeft_13 : decode cX3_mayBeLeft 13 = .ok (.iload_n 1, 1) := by decide +kernel
theorem dX3_mayBeLeft_14 : decode cX3_mayBeLeft 14 = .ok (.if_icmp .ge 56, 3) := by decide +kernel
theorem dX3_mayBeLeft_17 : decode cX3_mayBeLeft 17 = .ok (.aload_n 0, 1) := by decide +kernel
theorem dX3_mayBeLeft_18 : decode cX3_mayBeLeft 18 = .ok (.iload 6, 2) := by decide +kernel
theorem dX3_mayBeLeft_20 : decode cX3_mayBeLeft 20 = .ok (.bipush 10, 2) := by decide +kernel
theorem dX3_mayBeLeft_22 : decode cX3_mayBeLeft 22 = .ok (.imul, 1) := by decide +kernel
theorem dX3_mayBeLeft_23 : decode cX3_mayBeLeft 23 = .ok (.iload_n 2, 1) := by decide +kernel
theorem dX3_mayBeLeft_24 : decode cX3_mayBeLeft 24 = .ok (.iadd, 1) := by decide +kernel
theorem dX3_mayBeLeft_25 : decode cX3_mayBeLeft 25 = .ok (.iaload, 1) := by decide +kernel
theorem dX3_mayBeLeft_26 : decode cX3_mayBeLeft 26 = .ok (.istore 7, 2) := by decide +kernel
theorem dX3_mayBeLeft_28 : decode cX3_mayBeLeft 28 = .ok (.iload 7, 2) := by decide +kernel
theorem dX3_mayBeLeft_30 : decode cX3_mayBeLeft 30 = .ok (.iconst (-1), 1) := by decide +kernel
theorem dX3_mayBeLeft_31 : decode cX3_mayBeLeft 31 = .ok (.if_icmp .eq 33, 3) := by decide +kernel
theorem dX3_mayBeLeft_34 : decode cX3_mayBeLeft 34 = .ok (.iload 5, 2) := by decide +kernel
theorem dX3_mayBeLeft_36 : decode cX3_mayBeLeft 36 = .ok (.ifCond .ne 14, 3) := by decide +kernel
theorem dX3_mayBeLeft_39 : decode cX3_mayBeLeft 39 = .ok (.iload_n 3, 1) := by decide +kernel
theorem dX3_mayBeLeft_40 : decode cX3_mayBeLeft 40 = .ok (.ifCond .le 14, 3) := by decide +kernel
theorem dX3_mayBeLeft_43 : decode cX3_mayBeLeft 43 = .ok (.iload 7, 2) := by decide +kernel
theorem dX3_mayBeLeft_45 : decode cX3_mayBeLeft 45 = .ok (.iload 4, 2) := by decide +kernel
theorem dX3_mayBeLeft_47 : decode cX3_mayBeLeft 47 = .ok (.if_icmp .eq 7, 3) := by decide +kernel
theorem dX3_mayBeLeft_50 : decode cX3_mayBeLeft 50 = .ok (.iconst 1, 1) := by decide +kernel
theorem dX3_mayBeLeft_51 : decode cX3_mayBeLeft 51 = .ok (.goto 4, 3) := by decide +kernel
theorem dX3_mayBeLeft_54 : decode cX3_mayBeLeft 54 = .ok (.iconst 0, 1) := by decide +kernel
theorem dX3_mayBeLeft_55 : decode cX3_mayBeLeft 55 = .ok (.istore 5, 2) := by decide +kernel
theorem dX3_mayBeLeft_57 : decode cX3_mayBeLeft 57 = .ok (.iload 7, 2) := by decide +kernel
theorem dX3_mayBeLeft_59 : decode cX3_mayBeLeft 59 = .ok (.istore 4, 2) := by decide +kernel
theorem dX3_mayBeLeft_61 : decode cX3_mayBeLeft 61 = .ok (.iinc 3 1, 3) := by decide +kernel
theorem dX3_mayBeLeft_64 : decode cX3_mayBeLeft 64 = .ok (.iinc 6 1, 3) := by decide +kernel
theorem dX3_mayBeLeft_67 : decode cX3_mayBeLeft 67 = .ok (.goto (-56), 3) := by decide +kernel
theorem dX3_mayBeLeft_70 : decode cX3_mayBeLeft 70 = .ok (.iload 5, 2) := by decide +kernel
theorem dX3_mayBeLeft_72 : decode cX3_mayBeLeft 72 = .ok (.ifCond .ne 9, 3) := by decide +kernel
theorem dX3_mayBeLeft_75 : decode cX3_mayBeLeft 75 = .ok (.iload_n 3, 1) := by decide +kernel
theorem dX3_mayBeLeft_76 : decode cX3_mayBeLeft 76 = .ok (.iconst 1, 1) := by decide +kernel
theorem dX3_mayBeLeft_77 : decode cX3_mayBeLeft 77 = .ok (.iand, 1) := by decide +kernel
theorem dX3_mayBeLeft_78 : decode cX3_mayBeLeft 78 = .ok (.ifCond .eq 7, 3) := by decide +kernel
theorem dX3_mayBeLeft_81 : decode cX3_mayBeLeft 81 = .ok (.iconst 1, 1) := by decide +kernel
theorem dX3_mayBeLeft_82 : decode cX3_mayBeLeft 82 = .ok (.goto 4, 3) := by decide +kernel
theorem dX3_mayBeLeft_85 : decode cX3_mayBeLeft 85 = .ok (.iconst 0, 1) := by decide +kernel
theorem dX3_mayBeLeft_86 : decode cX3_mayBeLeft 86 = .ok (.ireturn, 1) := by decide +kernel
theorem dJ11_isValidCodePoint_9a6ad_0 : decode cJ11_isValidCodePoint_9a6ad 0 = .ok (.iload_n 0, 1) := by decide +kernel
theorem dJ11_isValidCodePoint_9a6ad_1 : decode cJ11_isValidCodePoint_9a6ad 1 = .ok (.bipush 16, 2) := by decide +kernel
theorem dJ11_isValidCodePoint_9a6ad_3 : decode cJ11_isValidCodePoint_9a6ad 3 = .ok (.iushr, 1) := by decide +kernel
theorem dJ11_isValidCodePoint_9a6ad_4 : decode cJ11_isValidCodePoint_9a6ad 4 = .ok (.istore_n 1, 1) := by decide +kernel
theorem dJ11_isValidCodePoint_9a6ad_5 : decode cJ11_isValidCodePoint_9a6ad 5 = .ok (.iload_n 1, 1) := by decide +kernel
theorem dJ11_isValidCodePoint_9a6ad_6 : decode cJ11_isValidCodePoint_9a6ad 6 = .ok (.bipush 17, 2) := by decide +kernel
theorem dJ11_isValidCodePoint_9a6ad_8 : decode cJ11_isValidCodePoint_9a6ad 8 = .ok (.if_icmp .ge 7, 3) := by decide +kernel
theorem dJ11_isValidCodePoint_9a6ad_11 : decode cJ11_isValidCodePoint_9a6ad 11 = .ok (.iconst 1, 1) := by decide +kernel
theorem dJ11_isValidCodePoint_9a6ad_12 : decode cJ11_isValidCodePoint_9a6ad 12 = .ok (.goto 4, 3) := by decide +kernel
theorem dJ11_isValidCodePoint_9a6ad_15 : decode cJ11_isValidCodePoint_9a6ad 15 = .ok (.iconst 0, 1) := by decide +kernel
theorem dJ11_isValidCodePoint_9a6ad_16 : decode cJ11_isValidCodePoint_9a6ad 16 = .ok (.ireturn, 1) := by decide +kernel
theorem dJ11_highSurrogate_5068e_0 : decode cJ11_highSurrogate_5068e 0 = .ok (.iload_n 0, 1) := by decide +kernel
theorem dJ11_highSurrogate_5068e_1 : decode cJ11_highSurrogate_5068e 1 = .ok (.bipush 10, 2) := by decide +kernel
theorem dJ11_highSurrogate_5068e_3 : decode cJ11_highSurrogate_5068e 3 = .ok (.iushr, 1) := by decide +kernel
theorem dJ11_highSurrogate_5068e_4 : decode cJ11_highSurrogate_5068e 4 = .ok (.ldc 110, 2) := by decide +kernel
theorem dJ11_highSurrogate_5068e_6 : decode cJ11_highSurrogate_5068e 6 = .ok (.iadd, 1) := by decide +kernel
theorem dJ11_highSurrogate_5068e_7 : decode cJ11_highSurrogate_5068e 7 = .ok (.i2c, 1) := by decide +kernel
theorem dJ11_highSurrogate_5068e_8 : decode cJ11_highSurrogate_5068e 8 = .ok (.ireturn, 1) := by decide +kernel
theorem dJ11_lowSurrogate_5068e_0 : decode cJ11_lowSurrogate_5068e 0 = .ok (.iload_n 0, 1) := by decide +kernel
theorem dJ11_lowSurrogate_5068e_1 : decode cJ11_lowSurrogate_5068e 1 = .ok (.sipush 1023, 3) := by decide +kernel
theorem dJ11_lowSurrogate_5068e_4 : decode cJ11_lowSurrogate_5068e 4 = .ok (.iand, 1) := by decide +kernel
theorem dJ11_lowSurrogate_5068e_5 : decode cJ11_lowSurrogate_5068e 5 = .ok (.ldc 76, 2) := by decide +kernel
theorem dJ11_lowSurrogate_5068e_7 : decode cJ11_lowSurrogate_5068e 7 = .ok (.iadd, 1) := by decide +kernel
theorem dJ11_lowSurrogate_5068e_8 : decode cJ11_lowSurrogate_5068e 8 = .ok (.i2c, 1) := by decide +kernel
theorem dJ11_lowSurrogate_5068e_9 : decode cJ11_lowSurrogate_5068e 9 = .ok (.ireturn, 1) := by decide +kernel
theorem dJ6_bitCount_0f7a4_0 : decode cJ6_bitCount_0f7a4 0 = .ok (.iload_n 0, 1) := by decide +kernel
theorem dJ6_bitCount_0f7a4_1 : decode cJ6_bitCount_0f7a4 1 = .ok (.iload_n 0, 1) := by decide +kernel
theorem dJ6_bitCount_0f7a4_2 : decode cJ6_bitCount_0f7a4 2 = .ok (.iconst 1, 1) := by decide +kernel
theorem dJ6_bitCount_0f7a4_3 : decode cJ6_bitCount_0f7a4 3 = .ok (.iushr, 1) := by decide +kernel
theorem dJ6_bitCount_0f7a4_4 : decode cJ6_bitCount_0f7a4 4 = .ok (.ldc_w 265, 3) := by decide +kernel
theorem dJ6_bitCount_0f7a4_7 : decode cJ6_bitCount_0f7a4 7 = .ok (.iand, 1) := by decide +kernel
theorem dJ6_bitCount_0f7a4_8 : decode cJ6_bitCount_0f7a4 8 = .ok (.isub, 1) := by decide +kernel
theorem dJ6_bitCount_0f7a4_9 : decode cJ6_bitCount_0f7a4 9 = .ok (.istore_n 0, 1) := by decide +kernel
theorem dJ6_bitCount_0f7a4_10 : decode cJ6_bitCount_0f7a4 10 = .ok (.iload_n 0, 1) := by decide +kernel
theorem dJ6_bitCount_0f7a4_11 : decode cJ6_bitCount_0f7a4 11 = .ok (.ldc_w 266, 3) := by decide +kernel
theorem dJ6_bitCount_0f7a4_14 : decode cJ6_bitCount_0f7a4 14 = .ok (.iand, 1) := by decide +kernel
theorem dJ6_bitCount_0f7a4_15 : decode cJ6_bitCount_0f7a4 15 = .ok (.iload_n 0, 1) := by decide +kernel
theorem dJ6_bitCount_0f7a4_16 : decode cJ6_bitCount_0f7a4 16 = .ok (.iconst 2, 1) := by decide +kernel
theorem dJ6_bitCount_0f7a4_17 : decode cJ6_bitCount_0f7a4 17 = .ok (.iushr, 1) := by decide +kernel
theorem dJ6_bitCount_0f7a4_18 : decode cJ6_bitCount_0f7a4 18 = .ok (.ldc_w 266, 3) := by decide +kernel
theorem dJ6_bitCount_0f7a4_21 : decode cJ6_bitCount_0f7a4 21 = .ok (.iand, 1) := by decide +kernel
theorem dJ6_bitCount_0f7a4_22 : decode cJ6_bitCount_0f7a4 22 = .ok (.iadd, 1) := by decide +kernel
theorem dJ6_bitCount_0f7a4_23 : decode cJ6_bitCount_0f7a4 23 = .ok (.istore_n 0, 1) := by decide +kernel
theorem dJ6_bitCount_0f7a4_24 : decode cJ6_bitCount_0f7a4 24 = .ok (.iload_n 0, 1) := by decide +kernel
theorem dJ6_bitCount_0f7a4_25 : decode cJ6_bitCount_0f7a4 25 = .ok (.iload_n 0, 1) := by decide +kernel
theorem dJ6_bitCount_0f7a4_26 : decode cJ6_bitCount_0f7a4 26 = .ok (.iconst 4, 1) := by decide +kernel
theorem dJ6_bitCount_0f7a4_27 : decode cJ6_bitCount_0f7a4 27 = .ok (.iushr, 1) := by decide +kernel
theorem dJ6_bitCount_0f7a4_28 : decode cJ6_bitCount_0f7a4 28 = .ok (.iadd, 1) := by decide +kernel
theorem dJ6_bitCount_0f7a4_29 : decode cJ6_bitCount_0f7a4 29 = .ok (.ldc_w 267, 3) := by decide +kernel
theorem dJ6_bitCount_0f7a4_32 : decode cJ6_bitCount_0f7a4 32 = .ok (.iand, 1) := by decide +kernel
theorem dJ6_bitCount_0f7a4_33 : decode cJ6_bitCount_0f7a4 33 = .ok (.istore_n 0, 1) := by decide +kernel
theorem dJ6_bitCount_0f7a4_34 : decode cJ6_bitCount_0f7a4 34 = .ok (.iload_n 0, 1) := by decide +kernel
theorem dJ6_bitCount_0f7a4_35 : decode cJ6_bitCount_0f7a4 35 = .ok (.iload_n 0, 1) := by decide +kernel
theorem dJ6_bitCount_0f7a4_36 : decode cJ6_bitCount_0f7a4 36 = .ok (.bipush 8, 2) := by decide +kernel
theorem dJ6_bitCount_0f7a4_38 : decode cJ6_bitCount_0f7a4 38 = .ok (.iushr, 1) := by decide +kernel
theorem dJ6_bitCount_0f7a4_39 : decode cJ6_bitCount_0f7a4 39 = .ok (.iadd, 1) := by decide +kernel
theorem dJ6_bitCount_0f7a4_40 : decode cJ6_bitCount_0f7a4 40 = .ok (.istore_n 0, 1) := by decide +kernel
theorem dJ6_bitCount_0f7a4_41 : decode cJ6_bitCount_0f7a4 41 = .ok (.iload_n 0, 1) := by decide +kernel
theorem dJ6_bitCount_0f7a4_42 : decode cJ6_bitCount_0f7a4 42 = .ok (.iload_n 0, 1) := by decide +kernel
theorem dJ6_bitCount_0f7a4_43 : decode cJ6_bitCount_0f7a4 43 = .ok (.bipush 16, 2) := by decide +kernel
theorem dJ6_bitCount_0f7a4_45 : decode cJ6_bitCount_0f7a4 45 = .ok (.iushr, 1) := by decide +kernel
theorem dJ6_bitCount_0f7a4_46 : decode cJ6_bitCount_0f7a4 46 = .ok (.iadd, 1) := by decide +kernel
theorem dJ6_bitCount_0f7a4_47 : decode cJ6_bitCount_0f7a4 47 = .ok (.istore_n 0, 1) := by decide +kernel
theorem dJ6_bitCount_0f7a4_48 : decode cJ6_bitCount_0f7a4 48 = .ok (.iload_n 0, 1) := by decide +kernel
theorem dJ6_bitCount_0f7a4_49 : decode cJ6_bitCount_0f7a4 49 = .ok (.bipush 63, 2) := by decide +kernel
theorem dJ6_bitCount_0f7a4_51 : decode cJ6_bitCount_0f7a4 51 = .ok (.iand, 1) := by decide +kernel
theorem dJ6_bitCount_0f7a4_52 : decode cJ6_bitCount_0f7a4 52 = .ok (.ireturn, 1) := by decide +kernel
theorem dJ9_max_7cf53_0 : decode cJ9_max_7cf53 0 = .ok (.iload_n 0, 1) := by decide +kernel
theorem dJ9_max_7cf53_1 : decode cJ9_max_7cf53 1 = .ok (.iload_n 1, 1) := by decide +kernel
theorem dJ9_max_7cf53_2 : decode cJ9_max_7cf53 2 = .ok (.if_icmp .lt 7, 3) := by decide +kernel
theorem dJ9_max_7cf53_5 : decode cJ9_max_7cf53 5 = .ok (.iload_n 0, 1) := by decide +kernel
theorem dJ9_max_7cf53_6 : decode cJ9_max_7cf53 6 = .ok (.goto 4, 3) := by decide +kernel
theorem dJ9_max_7cf53_9 : decode cJ9_max_7cf53 9 = .ok (.iload_n 1, 1) := by decide +kernel
theorem dJ9_max_7cf53_10 : decode cJ9_max_7cf53 10 = .ok (.ireturn, 1) := by decide +kernel
theorem dJ9_min_7cf53_0 : decode cJ9_min_7cf53 0 = .ok (.iload_n 0, 1) := by decide +kernel
theorem dJ9_min_7cf53_1 : decode cJ9_min_7cf53 1 = .ok (.iload_n 1, 1) := by decide +kernel
theorem dJ9_min_7cf53_2 : decode cJ9_min_7cf53 2 = .ok (.if_icmp .gt 7, 3) := by decide +kernel
theorem dJ9_min_7cf53_5 : decode cJ9_min_7cf53 5 = .ok (.iload_n 0, 1) := by decide +kernel
theorem dJ9_min_7cf53_6 : decode cJ9_min_7cf53 6 = .ok (.goto 4, 3) := by decide +kernel
theorem dJ9_min_7cf53_9 : decode cJ9_min_7cf53 9 = .ok (.iload_n 1, 1) := by decide +kernel
theorem dJ9_min_7cf53_10 : decode cJ9_min_7cf53 10 = .ok (.ireturn, 1) := by decide +kernel
theorem dJ0_length_8abf5_0 : decode cJ0_length_8abf5 0 = .ok (.aload_n 0, 1) := by decide +kernel
theorem dJ0_length_8abf5_1 : decode cJ0_length_8abf5 1 = .ok (.getfield 9, 3) := by decide +kernel
theorem dJ0_length_8abf5_4 : decode cJ0_length_8abf5 4 = .ok (.arraylength, 1) := by decide +kernel
theorem dJ0_length_8abf5_5 : decode cJ0_length_8abf5 5 = .ok (.aload_n 0, 1) := by decide +kernel
theorem dJ0_length_8abf5_6 : decode cJ0_length_8abf5 6 = .ok (.invokevirtual 335, 3) := by decide +kernel
theorem dJ0_length_8abf5_9 : decode cJ0_length_8abf5 9 = .ok (.ishr, 1) := by decide +kernel
theorem dJ0_length_8abf5_10 : decode cJ0_length_8abf5 10 = .ok (.ireturn, 1) := by decide +kernel
theorem dJ0_indexOf_0f7a4_0 : decode cJ0_indexOf_0f7a4 0 = .ok (.aload_n 0, 1) := by decide +kernel
theorem dJ0_indexOf_0f7a4_1 : decode cJ0_indexOf_0f7a4 1 = .ok (.iload_n 1, 1) := by decide +kernel
theorem dJ0_indexOf_0f7a4_2 : decode cJ0_indexOf_0f7a4 2 = .ok (.iconst 0, 1) := by decide +kernel
theorem dJ0_indexOf_0f7a4_3 : decode cJ0_indexOf_0f7a4 3 = .ok (.invokevirtual 633, 3) := by decide +kernel
theorem dJ0_indexOf_0f7a4_6 : decode cJ0_indexOf_0f7a4 6 = .ok (.ireturn, 1) := by decide +kernel
theorem dJ0_indexOf_7cf53_0 : decode cJ0_indexOf_7cf53 0 = .ok (.aload_n 0, 1) := by decide +kernel
theorem dJ0_indexOf_7cf53_1 : decode cJ0_indexOf_7cf53 1 = .ok (.invokevirtual 492, 3) := by decide +kernel
theorem dJ0_indexOf_7cf53_4 : decode cJ0_indexOf_7cf53 4 = .ok (.ifCond .eq 19, 3) := by decide +kernel
theorem dJ0_indexOf_7cf53_7 : decode cJ0_indexOf_7cf53 7 = .ok (.aload_n 0, 1) := by decide +kernel
theorem dJ0_indexOf_7cf53_8 : decode cJ0_indexOf_7cf53 8 = .ok (.getfield 9, 3) := by decide +kernel
theorem dJ0_indexOf_7cf53_11 : decode cJ0_indexOf_7cf53 11 = .ok (.iload_n 1, 1) := by decide +kernel
theorem dJ0_indexOf_7cf53_12 : decode cJ0_indexOf_7cf53 12 = .ok (.iload_n 2, 1) := by decide +kernel
theorem dJ0_indexOf_7cf53_13 : decode cJ0_indexOf_7cf53 13 = .ok (.aload_n 0, 1) := by decide +kernel
theorem dJ0_indexOf_7cf53_14 : decode cJ0_indexOf_7cf53 14 = .ok (.invokevirtual 505, 3) := by decide +kernel
theorem dJ0_indexOf_7cf53_17 : decode cJ0_indexOf_7cf53 17 = .ok (.invokestatic 637, 3) := by decide +kernel
theorem dJ0_indexOf_7cf53_20 : decode cJ0_indexOf_7cf53 20 = .ok (.goto 16, 3) := by decide +kernel
theorem dJ0_indexOf_7cf53_23 : decode cJ0_indexOf_7cf53 23 = .ok (.aload_n 0, 1) := by decide +kernel
theorem dJ0_indexOf_7cf53_24 : decode cJ0_indexOf_7cf53 24 = .ok (.getfield 9, 3) := by decide +kernel
theorem dJ0_indexOf_7cf53_27 : decode cJ0_indexOf_7cf53 27 = .ok (.iload_n 1, 1) := by decide +kernel
theorem dJ0_indexOf_7cf53_28 : decode cJ0_indexOf_7cf53 28 = .ok (.iload_n 2, 1) := by decide +kernel
theorem dJ0_indexOf_7cf53_29 : decode cJ0_indexOf_7cf53 29 = .ok (.aload_n 0, 1) := by decide +kernel
theorem dJ0_indexOf_7cf53_30 : decode cJ0_indexOf_7cf53 30 = .ok (.invokevirtual 505, 3) := by decide +kernel
theorem dJ0_indexOf_7cf53_33 : decode cJ0_indexOf_7cf53 33 = .ok (.invokestatic 640, 3) := by decide +kernel
theorem dJ0_indexOf_7cf53_36 : decode cJ0_indexOf_7cf53 36 = .ok (.ireturn, 1) := by decide +kernel
theorem dJ0_coder_7d493_0 : decode cJ0_coder_7d493 0 = .ok (.getstatic 38, 3) := by decide +kernel
theorem dJ0_coder_7d493_3 : decode cJ0_coder_7d493 3 = .ok (.ifCond .eq 10, 3) := by decide +kernel
theorem dJ0_coder_7d493_6 : decode cJ0_coder_7d493 6 = .ok (.aload_n 0, 1) := by decide +kernel
theorem dJ0_coder_7d493_7 : decode cJ0_coder_7d493 7 = .ok (.getfield 15, 3) := by decide +kernel
theorem dJ0_coder_7d493_10 : decode cJ0_coder_7d493 10 = .ok (.goto 4, 3) := by decide +kernel
theorem dJ0_coder_7d493_13 : decode cJ0_coder_7d493 13 = .ok (.iconst 1, 1) := by decide +kernel
theorem dJ0_coder_7d493_14 : decode cJ0_coder_7d493 14 = .ok (.ireturn, 1) := by decide +kernel
theorem dJ0_isLatin1_aae02_0 : decode cJ0_isLatin1_aae02 0 = .ok (.getstatic 38, 3) := by decide +kernel
theorem dJ0_isLatin1_aae02_3 : decode cJ0_isLatin1_aae02 3 = .ok (.ifCond .eq 14, 3) := by decide +kernel
theorem dJ0_isLatin1_aae02_6 : decode cJ0_isLatin1_aae02 6 = .ok (.aload_n 0, 1) := by decide +kernel
theorem dJ0_isLatin1_aae02_7 : decode cJ0_isLatin1_aae02 7 = .ok (.getfield 15, 3) := by decide +kernel
theorem dJ0_isLatin1_aae02_10 : decode cJ0_isLatin1_aae02 10 = .ok (.ifCond .ne 7, 3) := by decide +kernel
theorem dJ0_isLatin1_aae02_13 : decode cJ0_isLatin1_aae02 13 = .ok (.iconst 1, 1) := by decide +kernel
theorem dJ0_isLatin1_aae02_14 : decode cJ0_isLatin1_aae02 14 = .ok (.goto 4, 3) := by decide +kernel
theorem dJ0_isLatin1_aae02_17 : decode cJ0_isLatin1_aae02 17 = .ok (.iconst 0, 1) := by decide +kernel
theorem dJ0_isLatin1_aae02_18 : decode cJ0_isLatin1_aae02 18 = .ok (.ireturn, 1) := by decide +kernel
theorem dJ0_checkBoundsBeginEnd_23922_0 : decode cJ0_checkBoundsBeginEnd_23922 0 = .ok (.iload_n 0, 1) := by decide +kernel
theorem dJ0_checkBoundsBeginEnd_23922_1 : decode cJ0_checkBoundsBeginEnd_23922 1 = .ok (.iload_n 1, 1) := by decide +kernel
theorem dJ0_checkBoundsBeginEnd_23922_2 : decode cJ0_checkBoundsBeginEnd_23922 2 = .ok (.iload_n 2, 1) := by decide +kernel
theorem dJ0_checkBoundsBeginEnd_23922_3 : decode cJ0_checkBoundsBeginEnd_23922 3 = .ok (.getstatic 1053, 3) := by decide +kernel
theorem dJ0_checkBoundsBeginEnd_23922_6 : decode cJ0_checkBoundsBeginEnd_23922 6 = .ok (.invokestatic 1062, 3) := by decide +kernel
theorem dJ0_checkBoundsBeginEnd_23922_9 : decode cJ0_checkBoundsBeginEnd_23922 9 = .ok (.pop, 1) := by decide +kernel
theorem dJ0_checkBoundsBeginEnd_23922_10 : decode cJ0_checkBoundsBeginEnd_23922 10 = .ok (.return_, 1) := by decide +kernel
theorem dJ1_canEncode_9a6ad_0 : decode cJ1_canEncode_9a6ad 0 = .ok (.iload_n 0, 1) := by decide +kernel
theorem dJ1_canEncode_9a6ad_1 : decode cJ1_canEncode_9a6ad 1 = .ok (.ifCond .lt 14, 3) := by decide +kernel
theorem dJ1_canEncode_9a6ad_4 : decode cJ1_canEncode_9a6ad 4 = .ok (.iload_n 0, 1) := by decide +kernel
theorem dJ1_canEncode_9a6ad_5 : decode cJ1_canEncode_9a6ad 5 = .ok (.sipush 255, 3) := by decide +kernel
theorem dJ1_canEncode_9a6ad_8 : decode cJ1_canEncode_9a6ad 8 = .ok (.if_icmp .gt 7, 3) := by decide +kernel
theorem dJ1_canEncode_9a6ad_11 : decode cJ1_canEncode_9a6ad 11 = .ok (.iconst 1, 1) := by decide +kernel
theorem dJ1_canEncode_9a6ad_12 : decode cJ1_canEncode_9a6ad 12 = .ok (.goto 4, 3) := by decide +kernel
theorem dJ1_canEncode_9a6ad_15 : decode cJ1_canEncode_9a6ad 15 = .ok (.iconst 0, 1) := by decide +kernel
theorem dJ1_canEncode_9a6ad_16 : decode cJ1_canEncode_9a6ad 16 = .ok (.ireturn, 1) := by decide +kernel
theorem dJ1_indexOf_4cfef_0 : decode cJ1_indexOf_4cfef 0 = .ok (.iload_n 1, 1) := by decide +kernel
theorem dJ1_indexOf_4cfef_1 : decode cJ1_indexOf_4cfef 1 = .ok (.invokestatic 88, 3) := by decide +kernel
theorem dJ1_indexOf_4cfef_4 : decode cJ1_indexOf_4cfef 4 = .ok (.ifCond .ne 5, 3) := by decide +kernel
theorem dJ1_indexOf_4cfef_7 : decode cJ1_indexOf_4cfef 7 = .ok (.iconst (-1), 1) := by decide +kernel
theorem dJ1_indexOf_4cfef_8 : decode cJ1_indexOf_4cfef 8 = .ok (.ireturn, 1) := by decide +kernel
theorem dJ1_indexOf_4cfef_9 : decode cJ1_indexOf_4cfef 9 = .ok (.iload_n 2, 1) := by decide +kernel
theorem dJ1_indexOf_4cfef_10 : decode cJ1_indexOf_4cfef 10 = .ok (.iconst 0, 1) := by decide +kernel
theorem dJ1_indexOf_4cfef_11 : decode cJ1_indexOf_4cfef 11 = .ok (.invokestatic 92, 3) := by decide +kernel
theorem dJ1_indexOf_4cfef_14 : decode cJ1_indexOf_4cfef 14 = .ok (.istore_n 2, 1) := by decide +kernel
theorem dJ1_indexOf_4cfef_15 : decode cJ1_indexOf_4cfef 15 = .ok (.iload_n 3, 1) := by decide +kernel
theorem dJ1_indexOf_4cfef_16 : decode cJ1_indexOf_4cfef 16 = .ok (.aload_n 0, 1) := by decide +kernel
theorem dJ1_indexOf_4cfef_17 : decode cJ1_indexOf_4cfef 17 = .ok (.arraylength, 1) := by decide +kernel
theorem dJ1_indexOf_4cfef_18 : decode cJ1_indexOf_4cfef 18 = .ok (.invokestatic 38, 3) := by decide +kernel
theorem dJ1_indexOf_4cfef_21 : decode cJ1_indexOf_4cfef 21 = .ok (.istore_n 3, 1) := by decide +kernel
theorem dJ1_indexOf_4cfef_22 : decode cJ1_indexOf_4cfef 22 = .ok (.iload_n 2, 1) := by decide +kernel
theorem dJ1_indexOf_4cfef_23 : decode cJ1_indexOf_4cfef 23 = .ok (.iload_n 3, 1) := by decide +kernel
theorem dJ1_indexOf_4cfef_24 : decode cJ1_indexOf_4cfef 24 = .ok (.if_icmp .lt 5, 3) := by decide +kernel
theorem dJ1_indexOf_4cfef_27 : decode cJ1_indexOf_4cfef 27 = .ok (.iconst (-1), 1) := by decide +kernel
theorem dJ1_indexOf_4cfef_28 : decode cJ1_indexOf_4cfef 28 = .ok (.ireturn, 1) := by decide +kernel
theorem dJ1_indexOf_4cfef_29 : decode cJ1_indexOf_4cfef 29 = .ok (.aload_n 0, 1) := by decide +kernel
theorem dJ1_indexOf_4cfef_30 : decode cJ1_indexOf_4cfef 30 = .ok (.iload_n 1, 1) := by decide +kernel
theorem dJ1_indexOf_4cfef_31 : decode cJ1_indexOf_4cfef 31 = .ok (.iload_n 2, 1) := by decide +kernel
theorem dJ1_indexOf_4cfef_32 : decode cJ1_indexOf_4cfef 32 = .ok (.iload_n 3, 1) := by decide +kernel
theorem dJ1_indexOf_4cfef_33 : decode cJ1_indexOf_4cfef 33 = .ok (.invokestatic 95, 3) := by decide +kernel
theorem dJ1_indexOf_4cfef_36 : decode cJ1_indexOf_4cfef 36 = .ok (.ireturn, 1) := by decide +kernel
theorem dJ1_indexOfChar_4cfef_0 : decode cJ1_indexOfChar_4cfef 0 = .ok (.iload_n 1, 1) := by decide +kernel
theorem dJ1_indexOfChar_4cfef_1 : decode cJ1_indexOfChar_4cfef 1 = .ok (.i2b, 1) := by decide +kernel
theorem dJ1_indexOfChar_4cfef_2 : decode cJ1_indexOfChar_4cfef 2 = .ok (.istore 4, 2) := by decide +kernel
theorem dJ1_indexOfChar_4cfef_4 : decode cJ1_indexOfChar_4cfef 4 = .ok (.iload_n 2, 1) := by decide +kernel
theorem dJ1_indexOfChar_4cfef_5 : decode cJ1_indexOfChar_4cfef 5 = .ok (.istore 5, 2) := by decide +kernel
theorem dJ1_indexOfChar_4cfef_7 : decode cJ1_indexOfChar_4cfef 7 = .ok (.iload 5, 2) := by decide +kernel
theorem dJ1_indexOfChar_4cfef_9 : decode cJ1_indexOfChar_4cfef 9 = .ok (.iload_n 3, 1) := by decide +kernel
theorem dJ1_indexOfChar_4cfef_10 : decode cJ1_indexOfChar_4cfef 10 = .ok (.if_icmp .ge 21, 3) := by decide +kernel
theorem dJ1_indexOfChar_4cfef_13 : decode cJ1_indexOfChar_4cfef 13 = .ok (.aload_n 0, 1) := by decide +kernel
theorem dJ1_indexOfChar_4cfef_14 : decode cJ1_indexOfChar_4cfef 14 = .ok (.iload 5, 2) := by decide +kernel
theorem dJ1_indexOfChar_4cfef_16 : decode cJ1_indexOfChar_4cfef 16 = .ok (.baload, 1) := by decide +kernel
theorem dJ1_indexOfChar_4cfef_17 : decode cJ1_indexOfChar_4cfef 17 = .ok (.iload 4, 2) := by decide +kernel
theorem dJ1_indexOfChar_4cfef_19 : decode cJ1_indexOfChar_4cfef 19 = .ok (.if_icmp .ne 6, 3) := by decide +kernel
theorem dJ1_indexOfChar_4cfef_22 : decode cJ1_indexOfChar_4cfef 22 = .ok (.iload 5, 2) := by decide +kernel
theorem dJ1_indexOfChar_4cfef_24 : decode cJ1_indexOfChar_4cfef 24 = .ok (.ireturn, 1) := by decide +kernel
theorem dJ1_indexOfChar_4cfef_25 : decode cJ1_indexOfChar_4cfef 25 = .ok (.iinc 5 1, 3) := by decide +kernel
theorem dJ1_indexOfChar_4cfef_28 : decode cJ1_indexOfChar_4cfef 28 = .ok (.goto (-21), 3) := by decide +kernel
theorem dJ1_indexOfChar_4cfef_31 : decode cJ1_indexOfChar_4cfef 31 = .ok (.iconst (-1), 1) := by decide +kernel
theorem dJ1_indexOfChar_4cfef_32 : decode cJ1_indexOfChar_4cfef 32 = .ok (.ireturn, 1) := by decide +kernel
theorem dJ2_getChar_3b067_0 : decode cJ2_getChar_3b067 0 = .ok (.getstatic 44, 3) := by decide +kernel
theorem dJ2_getChar_3b067_3 : decode cJ2_getChar_3b067 3 = .ok (.ifCond .ne 25, 3) := by decide +kernel
theorem dJ2_getChar_3b067_6 : decode cJ2_getChar_3b067 6 = .ok (.iload_n 1, 1) := by decide +kernel
theorem dJ2_getChar_3b067_7 : decode cJ2_getChar_3b067 7 = .ok (.ifCond .lt 11, 3) := by decide +kernel
theorem dJ2_getChar_3b067_10 : decode cJ2_getChar_3b067 10 = .ok (.iload_n 1, 1) := by decide +kernel
theorem dJ2_getChar_3b067_11 : decode cJ2_getChar_3b067 11 = .ok (.aload_n 0, 1) := by decide +kernel
theorem dJ2_getChar_3b067_12 : decode cJ2_getChar_3b067 12 = .ok (.invokestatic 48, 3) := by decide +kernel
theorem dJ2_getChar_3b067_15 : decode cJ2_getChar_3b067 15 = .ok (.if_icmp .lt 13, 3) := by decide +kernel
theorem dJ2_getChar_3b067_18 : decode cJ2_getChar_3b067 18 = .ok (.new 52, 3) := by decide +kernel
theorem dJ2_getChar_3b067_21 : decode cJ2_getChar_3b067 21 = .ok (.dup, 1) := by decide +kernel
theorem dJ2_getChar_3b067_22 : decode cJ2_getChar_3b067 22 = .ok (.ldc 54, 2) := by decide +kernel
theorem dJ2_getChar_3b067_24 : decode cJ2_getChar_3b067 24 = .ok (.invokespecial 56, 3) := by decide +kernel
theorem dJ2_getChar_3b067_27 : decode cJ2_getChar_3b067 27 = .ok (.athrow, 1) := by decide +kernel
theorem dJ2_getChar_3b067_28 : decode cJ2_getChar_3b067 28 = .ok (.iload_n 1, 1) := by decide +kernel
theorem dJ2_getChar_3b067_29 : decode cJ2_getChar_3b067 29 = .ok (.iconst 1, 1) := by decide +kernel
theorem dJ2_getChar_3b067_30 : decode cJ2_getChar_3b067 30 = .ok (.ishl, 1) := by decide +kernel
theorem dJ2_getChar_3b067_31 : decode cJ2_getChar_3b067 31 = .ok (.istore_n 1, 1) := by decide +kernel
theorem dJ2_getChar_3b067_32 : decode cJ2_getChar_3b067 32 = .ok (.aload_n 0, 1) := by decide +kernel
theorem dJ2_getChar_3b067_33 : decode cJ2_getChar_3b067 33 = .ok (.iload_n 1, 1) := by decide +kernel
theorem dJ2_getChar_3b067_34 : decode cJ2_getChar_3b067 34 = .ok (.iinc 1 1, 3) := by decide +kernel
theorem dJ2_getChar_3b067_37 : decode cJ2_getChar_3b067 37 = .ok (.baload, 1) := by decide +kernel
theorem dJ2_getChar_3b067_38 : decode cJ2_getChar_3b067 38 = .ok (.sipush 255, 3) := by decide +kernel
theorem dJ2_getChar_3b067_41 : decode cJ2_getChar_3b067 41 = .ok (.iand, 1) := by decide +kernel
theorem dJ2_getChar_3b067_42 : decode cJ2_getChar_3b067 42 = .ok (.getstatic 59, 3) := by decide +kernel
theorem dJ2_getChar_3b067_45 : decode cJ2_getChar_3b067 45 = .ok (.ishl, 1) := by decide +kernel
theorem dJ2_getChar_3b067_46 : decode cJ2_getChar_3b067 46 = .ok (.aload_n 0, 1) := by decide +kernel
theorem dJ2_getChar_3b067_47 : decode cJ2_getChar_3b067 47 = .ok (.iload_n 1, 1) := by decide +kernel
theorem dJ2_getChar_3b067_48 : decode cJ2_getChar_3b067 48 = .ok (.baload, 1) := by decide +kernel
theorem dJ2_getChar_3b067_49 : decode cJ2_getChar_3b067 49 = .ok (.sipush 255, 3) := by decide +kernel
theorem dJ2_getChar_3b067_52 : decode cJ2_getChar_3b067 52 = .ok (.iand, 1) := by decide +kernel
theorem dJ2_getChar_3b067_53 : decode cJ2_getChar_3b067 53 = .ok (.getstatic 63, 3) := by decide +kernel
theorem dJ2_getChar_3b067_56 : decode cJ2_getChar_3b067 56 = .ok (.ishl, 1) := by decide +kernel
theorem dJ2_getChar_3b067_57 : decode cJ2_getChar_3b067 57 = .ok (.ior, 1) := by decide +kernel
theorem dJ2_getChar_3b067_58 : decode cJ2_getChar_3b067 58 = .ok (.i2c, 1) := by decide +kernel
theorem dJ2_getChar_3b067_59 : decode cJ2_getChar_3b067 59 = .ok (.ireturn, 1) := by decide +kernel
theorem dJ2_length_9d52b_0 : decode cJ2_length_9d52b 0 = .ok (.aload_n 0, 1) := by decide +kernel
theorem dJ2_length_9d52b_1 : decode cJ2_length_9d52b 1 = .ok (.arraylength, 1) := by decide +kernel
theorem dJ2_length_9d52b_2 : decode cJ2_length_9d52b 2 = .ok (.iconst 1, 1) := by decide +kernel
theorem dJ2_length_9d52b_3 : decode cJ2_length_9d52b 3 = .ok (.ishr, 1) := by decide +kernel
theorem dJ2_length_9d52b_4 : decode cJ2_length_9d52b 4 = .ok (.ireturn, 1) := by decide +kernel
theorem dJ2_indexOf_4cfef_0 : decode cJ2_indexOf_4cfef 0 = .ok (.iload_n 2, 1) := by decide +kernel
theorem dJ2_indexOf_4cfef_1 : decode cJ2_indexOf_4cfef 1 = .ok (.iconst 0, 1) := by decide +kernel
theorem dJ2_indexOf_4cfef_2 : decode cJ2_indexOf_4cfef 2 = .ok (.invokestatic 224, 3) := by decide +kernel
theorem dJ2_indexOf_4cfef_5 : decode cJ2_indexOf_4cfef 5 = .ok (.istore_n 2, 1) := by decide +kernel
theorem dJ2_indexOf_4cfef_6 : decode cJ2_indexOf_4cfef 6 = .ok (.iload_n 3, 1) := by decide +kernel
theorem dJ2_indexOf_4cfef_7 : decode cJ2_indexOf_4cfef 7 = .ok (.aload_n 0, 1) := by decide +kernel
theorem dJ2_indexOf_4cfef_8 : decode cJ2_indexOf_4cfef 8 = .ok (.arraylength, 1) := by decide +kernel
theorem dJ2_indexOf_4cfef_9 : decode cJ2_indexOf_4cfef 9 = .ok (.iconst 1, 1) := by decide +kernel
theorem dJ2_indexOf_4cfef_10 : decode cJ2_indexOf_4cfef 10 = .ok (.ishr, 1) := by decide +kernel
theorem dJ2_indexOf_4cfef_11 : decode cJ2_indexOf_4cfef 11 = .ok (.invokestatic 183, 3) := by decide +kernel
theorem dJ2_indexOf_4cfef_14 : decode cJ2_indexOf_4cfef 14 = .ok (.istore_n 3, 1) := by decide +kernel
theorem dJ2_indexOf_4cfef_15 : decode cJ2_indexOf_4cfef 15 = .ok (.iload_n 2, 1) := by decide +kernel
theorem dJ2_indexOf_4cfef_16 : decode cJ2_indexOf_4cfef 16 = .ok (.iload_n 3, 1) := by decide +kernel
theorem dJ2_indexOf_4cfef_17 : decode cJ2_indexOf_4cfef 17 = .ok (.if_icmp .lt 5, 3) := by decide +kernel
theorem dJ2_indexOf_4cfef_20 : decode cJ2_indexOf_4cfef 20 = .ok (.iconst (-1), 1) := by decide +kernel
theorem dJ2_indexOf_4cfef_21 : decode cJ2_indexOf_4cfef 21 = .ok (.ireturn, 1) := by decide +kernel
theorem dJ2_indexOf_4cfef_22 : decode cJ2_indexOf_4cfef 22 = .ok (.iload_n 1, 1) := by decide +kernel
theorem dJ2_indexOf_4cfef_23 : decode cJ2_indexOf_4cfef 23 = .ok (.ldc 227, 2) := by decide +kernel
theorem dJ2_indexOf_4cfef_25 : decode cJ2_indexOf_4cfef 25 = .ok (.if_icmp .ge 11, 3) := by decide +kernel
theorem dJ2_indexOf_4cfef_28 : decode cJ2_indexOf_4cfef 28 = .ok (.aload_n 0, 1) := by decide +kernel
theorem dJ2_indexOf_4cfef_29 : decode cJ2_indexOf_4cfef 29 = .ok (.iload_n 1, 1) := by decide +kernel
theorem dJ2_indexOf_4cfef_30 : decode cJ2_indexOf_4cfef 30 = .ok (.iload_n 2, 1) := by decide +kernel
theorem dJ2_indexOf_4cfef_31 : decode cJ2_indexOf_4cfef 31 = .ok (.iload_n 3, 1) := by decide +kernel
theorem dJ2_indexOf_4cfef_32 : decode cJ2_indexOf_4cfef 32 = .ok (.invokestatic 228, 3) := by decide +kernel
theorem dJ2_indexOf_4cfef_35 : decode cJ2_indexOf_4cfef 35 = .ok (.ireturn, 1) := by decide +kernel
theorem dJ2_indexOf_4cfef_36 : decode cJ2_indexOf_4cfef 36 = .ok (.aload_n 0, 1) := by decide +kernel
theorem dJ2_indexOf_4cfef_37 : decode cJ2_indexOf_4cfef 37 = .ok (.iload_n 1, 1) := by decide +kernel
theorem dJ2_indexOf_4cfef_38 : decode cJ2_indexOf_4cfef 38 = .ok (.iload_n 2, 1) := by decide +kernel
theorem dJ2_indexOf_4cfef_39 : decode cJ2_indexOf_4cfef 39 = .ok (.iload_n 3, 1) := by decide +kernel
theorem dJ2_indexOf_4cfef_40 : decode cJ2_indexOf_4cfef 40 = .ok (.invokestatic 232, 3) := by decide +kernel
theorem dJ2_indexOf_4cfef_43 : decode cJ2_indexOf_4cfef 43 = .ok (.ireturn, 1) := by decide +kernel
theorem dJ2_indexOfChar_4cfef_0 : decode cJ2_indexOfChar_4cfef 0 = .ok (.iload_n 2, 1) := by decide +kernel
theorem dJ2_indexOfChar_4cfef_1 : decode cJ2_indexOfChar_4cfef 1 = .ok (.iload_n 3, 1) := by decide +kernel
theorem dJ2_indexOfChar_4cfef_2 : decode cJ2_indexOfChar_4cfef 2 = .ok (.aload_n 0, 1) := by decide +kernel
theorem dJ2_indexOfChar_4cfef_3 : decode cJ2_indexOfChar_4cfef 3 = .ok (.invokestatic 96, 3) := by decide +kernel
theorem dJ2_indexOfChar_4cfef_6 : decode cJ2_indexOfChar_4cfef 6 = .ok (.aload_n 0, 1) := by decide +kernel
theorem dJ2_indexOfChar_4cfef_7 : decode cJ2_indexOfChar_4cfef 7 = .ok (.iload_n 1, 1) := by decide +kernel
theorem dJ2_indexOfChar_4cfef_8 : decode cJ2_indexOfChar_4cfef 8 = .ok (.iload_n 2, 1) := by decide +kernel
theorem dJ2_indexOfChar_4cfef_9 : decode cJ2_indexOfChar_4cfef 9 = .ok (.iload_n 3, 1) := by decide +kernel
theorem dJ2_indexOfChar_4cfef_10 : decode cJ2_indexOfChar_4cfef 10 = .ok (.invokestatic 244, 3) := by decide +kernel
theorem dJ2_indexOfChar_4cfef_13 : decode cJ2_indexOfChar_4cfef 13 = .ok (.ireturn, 1) := by decide +kernel
theorem dJ2_indexOfCharUnsafe_4cfef_0 : decode cJ2_indexOfCharUnsafe_4cfef 0 = .ok (.iload_n 2, 1) := by decide +kernel
theorem dJ2_indexOfCharUnsafe_4cfef_1 : decode cJ2_indexOfCharUnsafe_4cfef 1 = .ok (.istore 4, 2) := by decide +kernel
theorem dJ2_indexOfCharUnsafe_4cfef_3 : decode cJ2_indexOfCharUnsafe_4cfef 3 = .ok (.iload 4, 2) := by decide +kernel
theorem dJ2_indexOfCharUnsafe_4cfef_5 : decode cJ2_indexOfCharUnsafe_4cfef 5 = .ok (.iload_n 3, 1) := by decide +kernel
theorem dJ2_indexOfCharUnsafe_4cfef_6 : decode cJ2_indexOfCharUnsafe_4cfef 6 = .ok (.if_icmp .ge 22, 3) := by decide +kernel
theorem dJ2_indexOfCharUnsafe_4cfef_9 : decode cJ2_indexOfCharUnsafe_4cfef 9 = .ok (.aload_n 0, 1) := by decide +kernel
theorem dJ2_indexOfCharUnsafe_4cfef_10 : decode cJ2_indexOfCharUnsafe_4cfef 10 = .ok (.iload 4, 2) := by decide +kernel
theorem dJ2_indexOfCharUnsafe_4cfef_12 : decode cJ2_indexOfCharUnsafe_4cfef 12 = .ok (.invokestatic 71, 3) := by decide +kernel
theorem dJ2_indexOfCharUnsafe_4cfef_15 : decode cJ2_indexOfCharUnsafe_4cfef 15 = .ok (.iload_n 1, 1) := by decide +kernel
theorem dJ2_indexOfCharUnsafe_4cfef_16 : decode cJ2_indexOfCharUnsafe_4cfef 16 = .ok (.if_icmp .ne 6, 3) := by decide +kernel
theorem dJ2_indexOfCharUnsafe_4cfef_19 : decode cJ2_indexOfCharUnsafe_4cfef 19 = .ok (.iload 4, 2) := by decide +kernel
theorem dJ2_indexOfCharUnsafe_4cfef_21 : decode cJ2_indexOfCharUnsafe_4cfef 21 = .ok (.ireturn, 1) := by decide +kernel
theorem dJ2_indexOfCharUnsafe_4cfef_22 : decode cJ2_indexOfCharUnsafe_4cfef 22 = .ok (.iinc 4 1, 3) := by decide +kernel
theorem dJ2_indexOfCharUnsafe_4cfef_25 : decode cJ2_indexOfCharUnsafe_4cfef 25 = .ok (.goto (-22), 3) := by decide +kernel
theorem dJ2_indexOfCharUnsafe_4cfef_28 : decode cJ2_indexOfCharUnsafe_4cfef 28 = .ok (.iconst (-1), 1) := by decide +kernel
theorem dJ2_indexOfCharUnsafe_4cfef_29 : decode cJ2_indexOfCharUnsafe_4cfef 29 = .ok (.ireturn, 1) := by decide +kernel
theorem dJ2_indexOfSupplementary_4cfef_0 : decode cJ2_indexOfSupplementary_4cfef 0 = .ok (.iload_n 1, 1) := by decide +kernel
theorem dJ2_indexOfSupplementary_4cfef_1 : decode cJ2_indexOfSupplementary_4cfef 1 = .ok (.invokestatic 164, 3) := by decide +kernel
theorem dJ2_indexOfSupplementary_4cfef_4 : decode cJ2_indexOfSupplementary_4cfef 4 = .ok (.ifCond .eq 65, 3) := by decide +kernel
theorem dJ2_indexOfSupplementary_4cfef_7 : decode cJ2_indexOfSupplementary_4cfef 7 = .ok (.iload_n 1, 1) := by decide +kernel
theorem dJ2_indexOfSupplementary_4cfef_8 : decode cJ2_indexOfSupplementary_4cfef 8 = .ok (.invokestatic 157, 3) := by decide +kernel
theorem dJ2_indexOfSupplementary_4cfef_11 : decode cJ2_indexOfSupplementary_4cfef 11 = .ok (.istore 4, 2) := by decide +kernel
theorem dJ2_indexOfSupplementary_4cfef_13 : decode cJ2_indexOfSupplementary_4cfef 13 = .ok (.iload_n 1, 1) := by decide +kernel
theorem dJ2_indexOfSupplementary_4cfef_14 : decode cJ2_indexOfSupplementary_4cfef 14 = .ok (.invokestatic 161, 3) := by decide +kernel
theorem dJ2_indexOfSupplementary_4cfef_17 : decode cJ2_indexOfSupplementary_4cfef 17 = .ok (.istore 5, 2) := by decide +kernel
theorem dJ2_indexOfSupplementary_4cfef_19 : decode cJ2_indexOfSupplementary_4cfef 19 = .ok (.iload_n 2, 1) := by decide +kernel
theorem dJ2_indexOfSupplementary_4cfef_20 : decode cJ2_indexOfSupplementary_4cfef 20 = .ok (.iload_n 3, 1) := by decide +kernel
theorem dJ2_indexOfSupplementary_4cfef_21 : decode cJ2_indexOfSupplementary_4cfef 21 = .ok (.aload_n 0, 1) := by decide +kernel
theorem dJ2_indexOfSupplementary_4cfef_22 : decode cJ2_indexOfSupplementary_4cfef 22 = .ok (.invokestatic 96, 3) := by decide +kernel
theorem dJ2_indexOfSupplementary_4cfef_25 : decode cJ2_indexOfSupplementary_4cfef 25 = .ok (.iload_n 2, 1) := by decide +kernel
theorem dJ2_indexOfSupplementary_4cfef_26 : decode cJ2_indexOfSupplementary_4cfef 26 = .ok (.istore 6, 2) := by decide +kernel
theorem dJ2_indexOfSupplementary_4cfef_28 : decode cJ2_indexOfSupplementary_4cfef 28 = .ok (.iload 6, 2) := by decide +kernel
theorem dJ2_indexOfSupplementary_4cfef_30 : decode cJ2_indexOfSupplementary_4cfef 30 = .ok (.iload_n 3, 1) := by decide +kernel
theorem dJ2_indexOfSupplementary_4cfef_31 : decode cJ2_indexOfSupplementary_4cfef 31 = .ok (.iconst 1, 1) := by decide +kernel
theorem dJ2_indexOfSupplementary_4cfef_32 : decode cJ2_indexOfSupplementary_4cfef 32 = .ok (.isub, 1) := by decide +kernel
theorem dJ2_indexOfSupplementary_4cfef_33 : decode cJ2_indexOfSupplementary_4cfef 33 = .ok (.if_icmp .ge 36, 3) := by decide +kernel
theorem dJ2_indexOfSupplementary_4cfef_36 : decode cJ2_indexOfSupplementary_4cfef 36 = .ok (.aload_n 0, 1) := by decide +kernel
theorem dJ2_indexOfSupplementary_4cfef_37 : decode cJ2_indexOfSupplementary_4cfef 37 = .ok (.iload 6, 2) := by decide +kernel
theorem dJ2_indexOfSupplementary_4cfef_39 : decode cJ2_indexOfSupplementary_4cfef 39 = .ok (.invokestatic 71, 3) := by decide +kernel
theorem dJ2_indexOfSupplementary_4cfef_42 : decode cJ2_indexOfSupplementary_4cfef 42 = .ok (.iload 4, 2) := by decide +kernel
theorem dJ2_indexOfSupplementary_4cfef_44 : decode cJ2_indexOfSupplementary_4cfef 44 = .ok (.if_icmp .ne 19, 3) := by decide +kernel
theorem dJ2_indexOfSupplementary_4cfef_47 : decode cJ2_indexOfSupplementary_4cfef 47 = .ok (.aload_n 0, 1) := by decide +kernel
theorem dJ2_indexOfSupplementary_4cfef_48 : decode cJ2_indexOfSupplementary_4cfef 48 = .ok (.iload 6, 2) := by decide +kernel
theorem dJ2_indexOfSupplementary_4cfef_50 : decode cJ2_indexOfSupplementary_4cfef 50 = .ok (.iconst 1, 1) := by decide +kernel
theorem dJ2_indexOfSupplementary_4cfef_51 : decode cJ2_indexOfSupplementary_4cfef 51 = .ok (.iadd, 1) := by decide +kernel
theorem dJ2_indexOfSupplementary_4cfef_52 : decode cJ2_indexOfSupplementary_4cfef 52 = .ok (.invokestatic 71, 3) := by decide +kernel
theorem dJ2_indexOfSupplementary_4cfef_55 : decode cJ2_indexOfSupplementary_4cfef 55 = .ok (.iload 5, 2) := by decide +kernel
theorem dJ2_indexOfSupplementary_4cfef_57 : decode cJ2_indexOfSupplementary_4cfef 57 = .ok (.if_icmp .ne 6, 3) := by decide +kernel
theorem dJ2_indexOfSupplementary_4cfef_60 : decode cJ2_indexOfSupplementary_4cfef 60 = .ok (.iload 6, 2) := by decide +kernel
theorem dJ2_indexOfSupplementary_4cfef_62 : decode cJ2_indexOfSupplementary_4cfef 62 = .ok (.ireturn, 1) := by decide +kernel
theorem dJ2_indexOfSupplementary_4cfef_63 : decode cJ2_indexOfSupplementary_4cfef 63 = .ok (.iinc 6 1, 3) := by decide +kernel
theorem dJ2_indexOfSupplementary_4cfef_66 : decode cJ2_indexOfSupplementary_4cfef 66 = .ok (.goto (-38), 3) := by decide +kernel
theorem dJ2_indexOfSupplementary_4cfef_69 : decode cJ2_indexOfSupplementary_4cfef 69 = .ok (.iconst (-1), 1) := by decide +kernel
theorem dJ2_indexOfSupplementary_4cfef_70 : decode cJ2_indexOfSupplementary_4cfef 70 = .ok (.ireturn, 1) := by decide +kernel
theorem dJ2_checkBoundsBeginEnd_d044e_0 : decode cJ2_checkBoundsBeginEnd_d044e 0 = .ok (.iload_n 0, 1) := by decide +kernel
theorem dJ2_checkBoundsBeginEnd_d044e_1 : decode cJ2_checkBoundsBeginEnd_d044e 1 = .ok (.iload_n 1, 1) := by decide +kernel
theorem dJ2_checkBoundsBeginEnd_d044e_2 : decode cJ2_checkBoundsBeginEnd_d044e 2 = .ok (.aload_n 2, 1) := by decide +kernel
theorem dJ2_checkBoundsBeginEnd_d044e_3 : decode cJ2_checkBoundsBeginEnd_d044e 3 = .ok (.invokestatic 48, 3) := by decide +kernel
theorem dJ2_checkBoundsBeginEnd_d044e_6 : decode cJ2_checkBoundsBeginEnd_d044e 6 = .ok (.invokestatic 241, 3) := by decide +kernel
theorem dJ2_checkBoundsBeginEnd_d044e_9 : decode cJ2_checkBoundsBeginEnd_d044e 9 = .ok (.return_, 1) := by decide +kernel
theorem dJ7_fill_53178_0 : decode cJ7_fill_53178 0 = .ok (.iconst 0, 1) := by decide +kernel
theorem dJ7_fill_53178_1 : decode cJ7_fill_53178 1 = .ok (.istore_n 2, 1) := by decide +kernel
theorem dJ7_fill_53178_2 : decode cJ7_fill_53178 2 = .ok (.aload_n 0, 1) := by decide +kernel
theorem dJ7_fill_53178_3 : decode cJ7_fill_53178 3 = .ok (.arraylength, 1) := by decide +kernel
theorem dJ7_fill_53178_4 : decode cJ7_fill_53178 4 = .ok (.istore_n 3, 1) := by decide +kernel
theorem dJ7_fill_53178_5 : decode cJ7_fill_53178 5 = .ok (.iload_n 2, 1) := by decide +kernel
theorem dJ7_fill_53178_6 : decode cJ7_fill_53178 6 = .ok (.iload_n 3, 1) := by decide +kernel
theorem dJ7_fill_53178_7 : decode cJ7_fill_53178 7 = .ok (.if_icmp .ge 13, 3) := by decide +kernel
theorem dJ7_fill_53178_10 : decode cJ7_fill_53178 10 = .ok (.aload_n 0, 1) := by decide +kernel
theorem dJ7_fill_53178_11 : decode cJ7_fill_53178 11 = .ok (.iload_n 2, 1) := by decide +kernel
theorem dJ7_fill_53178_12 : decode cJ7_fill_53178 12 = .ok (.iload_n 1, 1) := by decide +kernel
theorem dJ7_fill_53178_13 : decode cJ7_fill_53178 13 = .ok (.iastore, 1) := by decide +kernel
theorem dJ7_fill_53178_14 : decode cJ7_fill_53178 14 = .ok (.iinc 2 1, 3) := by decide +kernel
theorem dJ7_fill_53178_17 : decode cJ7_fill_53178 17 = .ok (.goto (-12), 3) := by decide +kernel
theorem dJ7_fill_53178_20 : decode cJ7_fill_53178 20 = .ok (.return_, 1) := by decide +kernel
theorem dJ3_checkFromToIndex_8c36e_0 : decode cJ3_checkFromToIndex_8c36e 0 = .ok (.iload_n 0, 1) := by decide +kernel
theorem dJ3_checkFromToIndex_8c36e_1 : decode cJ3_checkFromToIndex_8c36e 1 = .ok (.ifCond .lt 13, 3) := by decide +kernel
theorem dJ3_checkFromToIndex_8c36e_4 : decode cJ3_checkFromToIndex_8c36e 4 = .ok (.iload_n 0, 1) := by decide +kernel
theorem dJ3_checkFromToIndex_8c36e_5 : decode cJ3_checkFromToIndex_8c36e 5 = .ok (.iload_n 1, 1) := by decide +kernel
theorem dJ3_checkFromToIndex_8c36e_6 : decode cJ3_checkFromToIndex_8c36e 6 = .ok (.if_icmp .gt 8, 3) := by decide +kernel
theorem dJ3_checkFromToIndex_8c36e_9 : decode cJ3_checkFromToIndex_8c36e 9 = .ok (.iload_n 1, 1) := by decide +kernel
theorem dJ3_checkFromToIndex_8c36e_10 : decode cJ3_checkFromToIndex_8c36e 10 = .ok (.iload_n 2, 1) := by decide +kernel
theorem dJ3_checkFromToIndex_8c36e_11 : decode cJ3_checkFromToIndex_8c36e 11 = .ok (.if_icmp .le 11, 3) := by decide +kernel
theorem dJ3_checkFromToIndex_8c36e_14 : decode cJ3_checkFromToIndex_8c36e 14 = .ok (.aload_n 3, 1) := by decide +kernel
theorem dJ3_checkFromToIndex_8c36e_15 : decode cJ3_checkFromToIndex_8c36e 15 = .ok (.iload_n 0, 1) := by decide +kernel
theorem dJ3_checkFromToIndex_8c36e_16 : decode cJ3_checkFromToIndex_8c36e 16 = .ok (.iload_n 1, 1) := by decide +kernel
theorem dJ3_checkFromToIndex_8c36e_17 : decode cJ3_checkFromToIndex_8c36e 17 = .ok (.iload_n 2, 1) := by decide +kernel
theorem dJ3_checkFromToIndex_8c36e_18 : decode cJ3_checkFromToIndex_8c36e 18 = .ok (.invokestatic 99, 3) := by decide +kernel
theorem dJ3_checkFromToIndex_8c36e_21 : decode cJ3_checkFromToIndex_8c36e 21 = .ok (.athrow, 1) := by decide +kernel
theorem dJ3_checkFromToIndex_8c36e_22 : decode cJ3_checkFromToIndex_8c36e 22 = .ok (.iload_n 0, 1) := by decide +kernel
theorem dJ3_checkFromToIndex_8c36e_23 : decode cJ3_checkFromToIndex_8c36e 23 = .ok (.ireturn, 1) := by decide +kernel
end
section
theorem dX4_init_0 : decode cX4_init 0 = .ok (.aload_n 0, 1) := by decide +kernel
theorem dX4_init_1 : decode cX4_init 1 = .ok (.invokespecial 3, 3) := by decide +kernel
theorem dX4_init_4 : decode cX4_init 4 = .ok (.aload_n 0, 1) := by decide +kernel
theorem dX4_init_5 : decode cX4_init 5 = .ok (.iconst 1, 1) := by decide +kernel
theorem dX4_init_6 : decode cX4_init 6 = .ok (.putfield 9, 3) := by decide +kernel
theorem dX4_init_9 : decode cX4_init 9 = .ok (.aload_n 0, 1) := by decide +kernel
theorem dX4_init_10 : decode cX4_init 10 = .ok (.iconst 0, 1) := by decide +kernel
theorem dX4_init_11 : decode cX4_init 11 = .ok (.putfield 15, 3) := by decide +kernel
theorem dX4_init_14 : decode cX4_init 14 = .ok (.aload_n 0, 1) := by decide +kernel
theorem dX4_init_15 : decode cX4_init 15 = .ok (.iconst 0, 1) := by decide +kernel
theorem dX4_init_16 : decode cX4_init 16 = .ok (.putfield 18, 3) := by decide +kernel
theorem dX4_init_19 : decode cX4_init 19 = .ok (.aload_n 0, 1) := by decide +kernel
theorem dX4_init_20 : decode cX4_init 20 = .ok (.iconst 0, 1) := by decide +kernel
theorem dX4_init_21 : decode cX4_init 21 = .ok (.putfield 21, 3) := by decide +kernel
theorem dX4_init_24 : decode cX4_init 24 = .ok (.aload_n 0, 1) := by decide +kernel
theorem dX4_init_25 : decode cX4_init 25 = .ok (.bipush 6, 2) := by decide +kernel
theorem dX4_init_27 : decode cX4_init 27 = .ok (.newarray .int, 2) := by decide +kernel
theorem dX4_init_29 : decode cX4_init 29 = .ok (.putfield 24, 3) := by decide +kernel
theorem dX4_init_32 : decode cX4_init 32 = .ok (.aload_n 0, 1) := by decide +kernel
theorem dX4_init_33 : decode cX4_init 33 = .ok (.bipush 60, 2) := by decide +kernel
theorem dX4_init_35 : decode cX4_init 35 = .ok (.newarray .int, 2) := by decide +kernel
theorem dX4_init_37 : decode cX4_init 37 = .ok (.putfield 28, 3) := by decide +kernel
theorem dX4_init_40 : decode cX4_init 40 = .ok (.aload_n 0, 1) := by decide +kernel
theorem dX4_init_41 : decode cX4_init 41 = .ok (.bipush 24, 2) := by decide +kernel
theorem dX4_init_43 : decode cX4_init 43 = .ok (.newarray .int, 2) := by decide +kernel
theorem dX4_init_45 : decode cX4_init 45 = .ok (.putfield 31, 3) := by decide +kernel
theorem dX4_init_48 : decode cX4_init 48 = .ok (.aload_n 0, 1) := by decide +kernel
theorem dX4_init_49 : decode cX4_init 49 = .ok (.bipush 24, 2) := by decide +kernel
theorem dX4_init_51 : decode cX4_init 51 = .ok (.newarray .int, 2) := by decide +kernel
theorem dX4_init_53 : decode cX4_init 53 = .ok (.putfield 34, 3) := by decide +kernel
theorem dX4_init_56 : decode cX4_init 56 = .ok (.aload_n 0, 1) := by decide +kernel
theorem dX4_init_57 : decode cX4_init 57 = .ok (.bipush 24, 2) := by decide +kernel
theorem dX4_init_59 : decode cX4_init 59 = .ok (.newarray .int, 2) := by decide +kernel
theorem dX4_init_61 : decode cX4_init 61 = .ok (.putfield 37, 3) := by decide +kernel
theorem dX4_init_64 : decode cX4_init 64 = .ok (.aload_n 0, 1) := by decide +kernel
theorem dX4_init_65 : decode cX4_init 65 = .ok (.bipush 24, 2) := by decide +kernel
theorem dX4_init_67 : decode cX4_init 67 = .ok (.newarray .int, 2) := by decide +kernel
theorem dX4_init_69 : decode cX4_init 69 = .ok (.putfield 40, 3) := by decide +kernel
theorem dX4_init_72 : decode cX4_init 72 = .ok (.aload_n 0, 1) := by decide +kernel
theorem dX4_init_73 : decode cX4_init 73 = .ok (.getfield 28, 3) := by decide +kernel
theorem dX4_init_76 : decode cX4_init 76 = .ok (.iconst (-1), 1) := by decide +kernel
theorem dX4_init_77 : decode cX4_init 77 = .ok (.invokestatic 43, 3) := by decide +kernel
theorem dX4_init_80 : decode cX4_init 80 = .ok (.return_, 1) := by decide +kernel
theorem dX4_reset_0 : decode cX4_reset 0 = .ok (.aload_n 0, 1) := by decide +kernel
theorem dX4_reset_1 : decode cX4_reset 1 = .ok (.iload_n 1, 1) := by decide +kernel
theorem dX4_reset_2 : decode cX4_reset 2 = .ok (.putfield 9, 3) := by decide +kernel
theorem dX4_reset_5 : decode cX4_reset 5 = .ok (.aload_n 0, 1) := by decide +kernel
theorem dX4_reset_6 : decode cX4_reset 6 = .ok (.iconst 0, 1) := by decide +kernel
theorem dX4_reset_7 : decode cX4_reset 7 = .ok (.putfield 15, 3) := by decide +kernel
theorem dX4_reset_10 : decode cX4_reset 10 = .ok (.aload_n 0, 1) := by decide +kernel
theorem dX4_reset_11 : decode cX4_reset 11 = .ok (.iconst 0, 1) := by decide +kernel
theorem dX4_reset_12 : decode cX4_reset 12 = .ok (.putfield 18, 3) := by decide +kernel
theorem dX4_reset_15 : decode cX4_reset 15 = .ok (.aload_n 0, 1) := by decide +kernel
theorem dX4_reset_16 : decode cX4_reset 16 = .ok (.iconst 0, 1) := by decide +kernel
theorem dX4_reset_17 : decode cX4_reset 17 = .ok (.putfield 21, 3) := by decide +kernel
theorem dX4_reset_20 : decode cX4_reset 20 = .ok (.aload_n 0, 1) := by decide +kernel
theorem dX4_reset_21 : decode cX4_reset 21 = .ok (.getfield 24, 3) := by decide +kernel
theorem dX4_reset_24 : decode cX4_reset 24 = .ok (.iconst 0, 1) := by decide +kernel
theorem dX4_reset_25 : decode cX4_reset 25 = .ok (.invokestatic 43, 3) := by decide +kernel
theorem dX4_reset_28 : decode cX4_reset 28 = .ok (.aload_n 0, 1) := by decide +kernel
theorem dX4_reset_29 : decode cX4_reset 29 = .ok (.getfield 28, 3) := by decide +kernel
theorem dX4_reset_32 : decode cX4_reset 32 = .ok (.iconst (-1), 1) := by decide +kernel
theorem dX4_reset_33 : decode cX4_reset 33 = .ok (.invokestatic 43, 3) := by decide +kernel
theorem dX4_reset_36 : decode cX4_reset 36 = .ok (.aload_n 0, 1) := by decide +kernel
theorem dX4_reset_37 : decode cX4_reset 37 = .ok (.getfield 31, 3) := by decide +kernel
theorem dX4_reset_40 : decode cX4_reset 40 = .ok (.iconst 0, 1) := by decide +kernel
theorem dX4_reset_41 : decode cX4_reset 41 = .ok (.invokestatic 43, 3) := by decide +kernel
theorem dX4_reset_44 : decode cX4_reset 44 = .ok (.aload_n 0, 1) := by decide +kernel
theorem dX4_reset_45 : decode cX4_reset 45 = .ok (.getfield 34, 3) := by decide +kernel
theorem dX4_reset_48 : decode cX4_reset 48 = .ok (.iconst 0, 1) := by decide +kernel
theorem dX4_reset_49 : decode cX4_reset 49 = .ok (.invokestatic 43, 3) := by decide +kernel
theorem dX4_reset_52 : decode cX4_reset 52 = .ok (.return_, 1) := by decide +kernel
theorem dX4_copyFrom_0 : decode cX4_copyFrom 0 = .ok (.aload_n 0, 1) := by decide +kernel
theorem dX4_copyFrom_1 : decode cX4_copyFrom 1 = .ok (.aload_n 1, 1) := by decide +kernel
theorem dX4_copyFrom_2 : decode cX4_copyFrom 2 = .ok (.getfield 9, 3) := by decide +kernel
theorem dX4_copyFrom_5 : decode cX4_copyFrom 5 = .ok (.putfield 9, 3) := by decide +kernel
theorem dX4_copyFrom_8 : decode cX4_copyFrom 8 = .ok (.aload_n 0, 1) := by decide +kernel
theorem dX4_copyFrom_9 : decode cX4_copyFrom 9 = .ok (.aload_n 1, 1) := by decide +kernel
theorem dX4_copyFrom_10 : decode cX4_copyFrom 10 = .ok (.getfield 15, 3) := by decide +kernel
theorem dX4_copyFrom_13 : decode cX4_copyFrom 13 = .ok (.putfield 15, 3) := by decide +kernel
theorem dX4_copyFrom_16 : decode cX4_copyFrom 16 = .ok (.aload_n 0, 1) := by decide +kernel
theorem dX4_copyFrom_17 : decode cX4_copyFrom 17 = .ok (.aload_n 1, 1) := by decide +kernel
theorem dX4_copyFrom_18 : decode cX4_copyFrom 18 = .ok (.getfield 18, 3) := by decide +kernel
theorem dX4_copyFrom_21 : decode cX4_copyFrom 21 = .ok (.putfield 18, 3) := by decide +kernel
theorem dX4_copyFrom_24 : decode cX4_copyFrom 24 = .ok (.aload_n 0, 1) := by decide +kernel
theorem dX4_copyFrom_25 : decode cX4_copyFrom 25 = .ok (.aload_n 1, 1) := by decide +kernel
theorem dX4_copyFrom_26 : decode cX4_copyFrom 26 = .ok (.getfield 21, 3) := by decide +kernel
theorem dX4_copyFrom_29 : decode cX4_copyFrom 29 = .ok (.putfield 21, 3) := by decide +kernel
theorem dX4_copyFrom_32 : decode cX4_copyFrom 32 = .ok (.aload_n 1, 1) := by decide +kernel
theorem dX4_copyFrom_33 : decode cX4_copyFrom 33 = .ok (.getfield 24, 3) := by decide +kernel
theorem dX4_copyFrom_36 : decode cX4_copyFrom 36 = .ok (.iconst 0, 1) := by decide +kernel
theorem dX4_copyFrom_37 : decode cX4_copyFrom 37 = .ok (.aload_n 0, 1) := by decide +kernel
theorem dX4_copyFrom_38 : decode cX4_copyFrom 38 = .ok (.getfield 24, 3) := by decide +kernel
theorem dX4_copyFrom_41 : decode cX4_copyFrom 41 = .ok (.iconst 0, 1) := by decide +kernel
theorem dX4_copyFrom_42 : decode cX4_copyFrom 42 = .ok (.bipush 6, 2) := by decide +kernel
theorem dX4_copyFrom_44 : decode cX4_copyFrom 44 = .ok (.invokestatic 49, 3) := by decide +kernel
theorem dX4_copyFrom_47 : decode cX4_copyFrom 47 = .ok (.aload_n 1, 1) := by decide +kernel
theorem dX4_copyFrom_48 : decode cX4_copyFrom 48 = .ok (.getfield 28, 3) := by decide +kernel
theorem dX4_copyFrom_51 : decode cX4_copyFrom 51 = .ok (.iconst 0, 1) := by decide +kernel
theorem dX4_copyFrom_52 : decode cX4_copyFrom 52 = .ok (.aload_n 0, 1) := by decide +kernel
theorem dX4_copyFrom_53 : decode cX4_copyFrom 53 = .ok (.getfield 28, 3) := by decide +kernel
theorem dX4_copyFrom_56 : decode cX4_copyFrom 56 = .ok (.iconst 0, 1) := by decide +kernel
theorem dX4_copyFrom_57 : decode cX4_copyFrom 57 = .ok (.bipush 60, 2) := by decide +kernel
theorem dX4_copyFrom_59 : decode cX4_copyFrom 59 = .ok (.invokestatic 49, 3) := by decide +kernel
theorem dX4_copyFrom_62 : decode cX4_copyFrom 62 = .ok (.aload_n 1, 1) := by decide +kernel
theorem dX4_copyFrom_63 : decode cX4_copyFrom 63 = .ok (.getfield 31, 3) := by decide +kernel
theorem dX4_copyFrom_66 : decode cX4_copyFrom 66 = .ok (.iconst 0, 1) := by decide +kernel
theorem dX4_copyFrom_67 : decode cX4_copyFrom 67 = .ok (.aload_n 0, 1) := by decide +kernel
theorem dX4_copyFrom_68 : decode cX4_copyFrom 68 = .ok (.getfield 31, 3) := by decide +kernel
theorem dX4_copyFrom_71 : decode cX4_copyFrom 71 = .ok (.iconst 0, 1) := by decide +kernel
theorem dX4_copyFrom_72 : decode cX4_copyFrom 72 = .ok (.bipush 24, 2) := by decide +kernel
theorem dX4_copyFrom_74 : decode cX4_copyFrom 74 = .ok (.invokestatic 49, 3) := by decide +kernel
theorem dX4_copyFrom_77 : decode cX4_copyFrom 77 = .ok (.aload_n 1, 1) := by decide +kernel
theorem dX4_copyFrom_78 : decode cX4_copyFrom 78 = .ok (.getfield 34, 3) := by decide +kernel
theorem dX4_copyFrom_81 : decode cX4_copyFrom 81 = .ok (.iconst 0, 1) := by decide +kernel
theorem dX4_copyFrom_82 : decode cX4_copyFrom 82 = .ok (.aload_n 0, 1) := by decide +kernel
theorem dX4_copyFrom_83 : decode cX4_copyFrom 83 = .ok (.getfield 34, 3) := by decide +kernel
theorem dX4_copyFrom_86 : decode cX4_copyFrom 86 = .ok (.iconst 0, 1) := by decide +kernel
theorem dX4_copyFrom_87 : decode cX4_copyFrom 87 = .ok (.bipush 24, 2) := by decide +kernel
theorem dX4_copyFrom_89 : decode cX4_copyFrom 89 = .ok (.invokestatic 49, 3) := by decide +kernel
theorem dX4_copyFrom_92 : decode cX4_copyFrom 92 = .ok (.aload_n 1, 1) := by decide +kernel
theorem dX4_copyFrom_93 : decode cX4_copyFrom 93 = .ok (.getfield 37, 3) := by decide +kernel
theorem dX4_copyFrom_96 : decode cX4_copyFrom 96 = .ok (.iconst 0, 1) := by decide +kernel
theorem dX4_copyFrom_97 : decode cX4_copyFrom 97 = .ok (.aload_n 0, 1) := by decide +kernel
theorem dX4_copyFrom_98 : decode cX4_copyFrom 98 = .ok (.getfield 37, 3) := by decide +kernel
theorem dX4_copyFrom_101 : decode cX4_copyFrom 101 = .ok (.iconst 0, 1) := by decide +kernel
theorem dX4_copyFrom_102 : decode cX4_copyFrom 102 = .ok (.bipush 24, 2) := by decide +kernel
theorem dX4_copyFrom_104 : decode cX4_copyFrom 104 = .ok (.invokestatic 49, 3) := by decide +kernel
theorem dX4_copyFrom_107 : decode cX4_copyFrom 107 = .ok (.aload_n 1, 1) := by decide +kernel
theorem dX4_copyFrom_108 : decode cX4_copyFrom 108 = .ok (.getfield 40, 3) := by decide +kernel
theorem dX4_copyFrom_111 : decode cX4_copyFrom 111 = .ok (.iconst 0, 1) := by decide +kernel
theorem dX4_copyFrom_112 : decode cX4_copyFrom 112 = .ok (.aload_n 0, 1) := by decide +kernel
theorem dX4_copyFrom_113 : decode cX4_copyFrom 113 = .ok (.getfield 40, 3) := by decide +kernel
theorem dX4_copyFrom_116 : decode cX4_copyFrom 116 = .ok (.iconst 0, 1) := by decide +kernel
theorem dX4_copyFrom_117 : decode cX4_copyFrom 117 = .ok (.bipush 24, 2) := by decide +kernel
theorem dX4_copyFrom_119 : decode cX4_copyFrom 119 = .ok (.invokestatic 49, 3) := by decide +kernel
theorem dX4_copyFrom_122 : decode cX4_copyFrom 122 = .ok (.return_, 1) := by decide +kernel
theorem dX4_userCell_0 : decode cX4_userCell 0 = .ok (.iload_n 0, 1) := by decide +kernel
theorem dX4_userCell_1 : decode cX4_userCell 1 = .ok (.bipush 10, 2) := by decide +kernel
theorem dX4_userCell_3 : decode cX4_userCell 3 = .ok (.imul, 1) := by decide +kernel
theorem dX4_userCell_4 : decode cX4_userCell 4 = .ok (.iload_n 1, 1) := by decide +kernel
theorem dX4_userCell_5 : decode cX4_userCell 5 = .ok (.iadd, 1) := by decide +kernel
theorem dX4_userCell_6 : decode cX4_userCell 6 = .ok (.ireturn, 1) := by decide +kernel
theorem dX4_channelCell_0 : decode cX4_channelCell 0 = .ok (.iload_n 0, 1) := by decide +kernel
theorem dX4_channelCell_1 : decode cX4_channelCell 1 = .ok (.iconst 4, 1) := by decide +kernel
theorem dX4_channelCell_2 : decode cX4_channelCell 2 = .ok (.imul, 1) := by decide +kernel
theorem dX4_channelCell_3 : decode cX4_channelCell 3 = .ok (.iload_n 1, 1) := by decide +kernel
theorem dX4_channelCell_4 : decode cX4_channelCell 4 = .ok (.iadd, 1) := by decide +kernel
theorem dX4_channelCell_5 : decode cX4_channelCell 5 = .ok (.ireturn, 1) := by decide +kernel
theorem dX4_hasServer_0 : decode cX4_hasServer 0 = .ok (.iload_n 1, 1) := by decide +kernel
theorem dX4_hasServer_1 : decode cX4_hasServer 1 = .ok (.ifCond .lt 15, 3) := by decide +kernel
theorem dX4_hasServer_4 : decode cX4_hasServer 4 = .ok (.iload_n 1, 1) := by decide +kernel
theorem dX4_hasServer_5 : decode cX4_hasServer 5 = .ok (.aload_n 0, 1) := by decide +kernel
theorem dX4_hasServer_6 : decode cX4_hasServer 6 = .ok (.getfield 9, 3) := by decide +kernel
theorem dX4_hasServer_9 : decode cX4_hasServer 9 = .ok (.if_icmp .ge 7, 3) := by decide +kernel
theorem dX4_hasServer_12 : decode cX4_hasServer 12 = .ok (.iconst 1, 1) := by decide +kernel
theorem dX4_hasServer_13 : decode cX4_hasServer 13 = .ok (.goto 4, 3) := by decide +kernel
theorem dX4_hasServer_16 : decode cX4_hasServer 16 = .ok (.iconst 0, 1) := by decide +kernel
theorem dX4_hasServer_17 : decode cX4_hasServer 17 = .ok (.ireturn, 1) := by decide +kernel
theorem dX4_hasServers_0 : decode cX4_hasServers 0 = .ok (.aload_n 0, 1) := by decide +kernel
theorem dX4_hasServers_1 : decode cX4_hasServers 1 = .ok (.iload_n 1, 1) := by decide +kernel
theorem dX4_hasServers_2 : decode cX4_hasServers 2 = .ok (.invokevirtual 55, 3) := by decide +kernel
theorem dX4_hasServers_5 : decode cX4_hasServers 5 = .ok (.ifCond .eq 15, 3) := by decide +kernel
theorem dX4_hasServers_8 : decode cX4_hasServers 8 = .ok (.aload_n 0, 1) := by decide +kernel
theorem dX4_hasServers_9 : decode cX4_hasServers 9 = .ok (.iload_n 2, 1) := by decide +kernel
theorem dX4_hasServers_10 : decode cX4_hasServers 10 = .ok (.invokevirtual 55, 3) := by decide +kernel
theorem dX4_hasServers_13 : decode cX4_hasServers 13 = .ok (.ifCond .eq 7, 3) := by decide +kernel
theorem dX4_hasServers_16 : decode cX4_hasServers 16 = .ok (.iconst 1, 1) := by decide +kernel
theorem dX4_hasServers_17 : decode cX4_hasServers 17 = .ok (.goto 4, 3) := by decide +kernel
theorem dX4_hasServers_20 : decode cX4_hasServers 20 = .ok (.iconst 0, 1) := by decide +kernel
theorem dX4_hasServers_21 : decode cX4_hasServers 21 = .ok (.ireturn, 1) := by decide +kernel
theorem dX4_areLinked_0 : decode cX4_areLinked 0 = .ok (.aload_n 0, 1) := by decide +kernel
theorem dX4_areLinked_1 : decode cX4_areLinked 1 = .ok (.getfield 24, 3) := by decide +kernel
theorem dX4_areLinked_4 : decode cX4_areLinked 4 = .ok (.iload_n 1, 1) := by decide +kernel
theorem dX4_areLinked_5 : decode cX4_areLinked 5 = .ok (.iaload, 1) := by decide +kernel
theorem dX4_areLinked_6 : decode cX4_areLinked 6 = .ok (.iload_n 2, 1) := by decide +kernel
theorem dX4_areLinked_7 : decode cX4_areLinked 7 = .ok (.invokestatic 59, 3) := by decide +kernel
theorem dX4_areLinked_10 : decode cX4_areLinked 10 = .ok (.ireturn, 1) := by decide +kernel
theorem dX4_link_0 : decode cX4_link 0 = .ok (.aload_n 0, 1) := by decide +kernel
theorem dX4_link_1 : decode cX4_link 1 = .ok (.getfield 24, 3) := by decide +kernel
theorem dX4_link_4 : decode cX4_link 4 = .ok (.iload_n 1, 1) := by decide +kernel
theorem dX4_link_5 : decode cX4_link 5 = .ok (.aload_n 0, 1) := by decide +kernel
theorem dX4_link_6 : decode cX4_link 6 = .ok (.getfield 24, 3) := by decide +kernel
theorem dX4_link_9 : decode cX4_link 9 = .ok (.iload_n 1, 1) := by decide +kernel
theorem dX4_link_10 : decode cX4_link 10 = .ok (.iaload, 1) := by decide +kernel
theorem dX4_link_11 : decode cX4_link 11 = .ok (.iload_n 2, 1) := by decide +kernel
theorem dX4_link_12 : decode cX4_link 12 = .ok (.iconst 1, 1) := by decide +kernel
theorem dX4_link_13 : decode cX4_link 13 = .ok (.invokestatic 63, 3) := by decide +kernel
theorem dX4_link_16 : decode cX4_link 16 = .ok (.iastore, 1) := by decide +kernel
theorem dX4_link_17 : decode cX4_link 17 = .ok (.aload_n 0, 1) := by decide +kernel
theorem dX4_link_18 : decode cX4_link 18 = .ok (.getfield 24, 3) := by decide +kernel
theorem dX4_link_21 : decode cX4_link 21 = .ok (.iload_n 2, 1) := by decide +kernel
theorem dX4_link_22 : decode cX4_link 22 = .ok (.aload_n 0, 1) := by decide +kernel
theorem dX4_link_23 : decode cX4_link 23 = .ok (.getfield 24, 3) := by decide +kernel
theorem dX4_link_26 : decode cX4_link 26 = .ok (.iload_n 2, 1) := by decide +kernel
theorem dX4_link_27 : decode cX4_link 27 = .ok (.iaload, 1) := by decide +kernel
theorem dX4_link_28 : decode cX4_link 28 = .ok (.iload_n 1, 1) := by decide +kernel
theorem dX4_link_29 : decode cX4_link 29 = .ok (.iconst 1, 1) := by decide +kernel
theorem dX4_link_30 : decode cX4_link 30 = .ok (.invokestatic 63, 3) := by decide +kernel
theorem dX4_link_33 : decode cX4_link 33 = .ok (.iastore, 1) := by decide +kernel
theorem dX4_link_34 : decode cX4_link 34 = .ok (.return_, 1) := by decide +kernel
theorem dX4_unlink_0 : decode cX4_unlink 0 = .ok (.aload_n 0, 1) := by decide +kernel
theorem dX4_unlink_1 : decode cX4_unlink 1 = .ok (.getfield 24, 3) := by decide +kernel
theorem dX4_unlink_4 : decode cX4_unlink 4 = .ok (.iload_n 1, 1) := by decide +kernel
theorem dX4_unlink_5 : decode cX4_unlink 5 = .ok (.aload_n 0, 1) := by decide +kernel
theorem dX4_unlink_6 : decode cX4_unlink 6 = .ok (.getfield 24, 3) := by decide +kernel
theorem dX4_unlink_9 : decode cX4_unlink 9 = .ok (.iload_n 1, 1) := by decide +kernel
theorem dX4_unlink_10 : decode cX4_unlink 10 = .ok (.iaload, 1) := by decide +kernel
theorem dX4_unlink_11 : decode cX4_unlink 11 = .ok (.iload_n 2, 1) := by decide +kernel
theorem dX4_unlink_12 : decode cX4_unlink 12 = .ok (.iconst 0, 1) := by decide +kernel
theorem dX4_unlink_13 : decode cX4_unlink 13 = .ok (.invokestatic 63, 3) := by decide +kernel
theorem dX4_unlink_16 : decode cX4_unlink 16 = .ok (.iastore, 1) := by decide +kernel
theorem dX4_unlink_17 : decode cX4_unlink 17 = .ok (.aload_n 0, 1) := by decide +kernel
theorem dX4_unlink_18 : decode cX4_unlink 18 = .ok (.getfield 24, 3) := by decide +kernel
theorem dX4_unlink_21 : decode cX4_unlink 21 = .ok (.iload_n 2, 1) := by decide +kernel
theorem dX4_unlink_22 : decode cX4_unlink 22 = .ok (.aload_n 0, 1) := by decide +kernel
theorem dX4_unlink_23 : decode cX4_unlink 23 = .ok (.getfield 24, 3) := by decide +kernel
theorem dX4_unlink_26 : decode cX4_unlink 26 = .ok (.iload_n 2, 1) := by decide +kernel
theorem dX4_unlink_27 : decode cX4_unlink 27 = .ok (.iaload, 1) := by decide +kernel
theorem dX4_unlink_28 : decode cX4_unlink 28 = .ok (.iload_n 1, 1) := by decide +kernel
theorem dX4_unlink_29 : decode cX4_unlink 29 = .ok (.iconst 0, 1) := by decide +kernel
theorem dX4_unlink_30 : decode cX4_unlink 30 = .ok (.invokestatic 63, 3) := by decide +kernel
theorem dX4_unlink_33 : decode cX4_unlink 33 = .ok (.iastore, 1) := by decide +kernel
theorem dX4_unlink_34 : decode cX4_unlink 34 = .ok (.return_, 1) := by decide +kernel
theorem dX4_withNeighbours_0 : decode cX4_withNeighbours 0 = .ok (.iload_n 1, 1) := by decide +kernel
theorem dX4_withNeighbours_1 : decode cX4_withNeighbours 1 = .ok (.istore_n 2, 1) := by decide +kernel
theorem dX4_withNeighbours_2 : decode cX4_withNeighbours 2 = .ok (.iconst 0, 1) := by decide +kernel
theorem dX4_withNeighbours_3 : decode cX4_withNeighbours 3 = .ok (.istore_n 3, 1) := by decide +kernel
theorem dX4_withNeighbours_4 : decode cX4_withNeighbours 4 = .ok (.iload_n 3, 1) := by decide +kernel
theorem dX4_withNeighbours_5 : decode cX4_withNeighbours 5 = .ok (.bipush 6, 2) := by decide +kernel
theorem dX4_withNeighbours_7 : decode cX4_withNeighbours 7 = .ok (.if_icmp .ge 26, 3) := by decide +kernel
theorem dX4_withNeighbours_10 : decode cX4_withNeighbours 10 = .ok (.iload_n 1, 1) := by decide +kernel
theorem dX4_withNeighbours_11 : decode cX4_withNeighbours 11 = .ok (.iload_n 3, 1) := by decide +kernel
theorem dX4_withNeighbours_12 : decode cX4_withNeighbours 12 = .ok (.invokestatic 59, 3) := by decide +kernel
theorem dX4_withNeighbours_15 : decode cX4_withNeighbours 15 = .ok (.ifCond .eq 12, 3) := by decide +kernel
theorem dX4_withNeighbours_18 : decode cX4_withNeighbours 18 = .ok (.iload_n 2, 1) := by decide +kernel
theorem dX4_withNeighbours_19 : decode cX4_withNeighbours 19 = .ok (.aload_n 0, 1) := by decide +kernel
theorem dX4_withNeighbours_20 : decode cX4_withNeighbours 20 = .ok (.getfield 24, 3) := by decide +kernel
theorem dX4_withNeighbours_23 : decode cX4_withNeighbours 23 = .ok (.iload_n 3, 1) := by decide +kernel
theorem dX4_withNeighbours_24 : decode cX4_withNeighbours 24 = .ok (.iaload, 1) := by decide +kernel
theorem dX4_withNeighbours_25 : decode cX4_withNeighbours 25 = .ok (.ior, 1) := by decide +kernel
theorem dX4_withNeighbours_26 : decode cX4_withNeighbours 26 = .ok (.istore_n 2, 1) := by decide +kernel
theorem dX4_withNeighbours_27 : decode cX4_withNeighbours 27 = .ok (.iinc 3 1, 3) := by decide +kernel
theorem dX4_withNeighbours_30 : decode cX4_withNeighbours 30 = .ok (.goto (-26), 3) := by decide +kernel
theorem dX4_withNeighbours_33 : decode cX4_withNeighbours 33 = .ok (.iload_n 2, 1) := by decide +kernel
theorem dX4_withNeighbours_34 : decode cX4_withNeighbours 34 = .ok (.ireturn, 1) := by decide +kernel
theorem dX4_networkOf_0 : decode cX4_networkOf 0 = .ok (.iconst 1, 1) := by decide +kernel
theorem dX4_networkOf_1 : decode cX4_networkOf 1 = .ok (.iload_n 1, 1) := by decide +kernel
theorem dX4_networkOf_2 : decode cX4_networkOf 2 = .ok (.ishl, 1) := by decide +kernel
theorem dX4_networkOf_3 : decode cX4_networkOf 3 = .ok (.istore_n 2, 1) := by decide +kernel
theorem dX4_networkOf_4 : decode cX4_networkOf 4 = .ok (.iconst 1, 1) := by decide +kernel
theorem dX4_networkOf_5 : decode cX4_networkOf 5 = .ok (.istore_n 3, 1) := by decide +kernel
theorem dX4_networkOf_6 : decode cX4_networkOf 6 = .ok (.iload_n 3, 1) := by decide +kernel
theorem dX4_networkOf_7 : decode cX4_networkOf 7 = .ok (.bipush 6, 2) := by decide +kernel
theorem dX4_networkOf_9 : decode cX4_networkOf 9 = .ok (.if_icmp .ge 15, 3) := by decide +kernel
theorem dX4_networkOf_12 : decode cX4_networkOf 12 = .ok (.aload_n 0, 1) := by decide +kernel
theorem dX4_networkOf_13 : decode cX4_networkOf 13 = .ok (.iload_n 2, 1) := by decide +kernel
theorem dX4_networkOf_14 : decode cX4_networkOf 14 = .ok (.invokevirtual 67, 3) := by decide +kernel
theorem dX4_networkOf_17 : decode cX4_networkOf 17 = .ok (.istore_n 2, 1) := by decide +kernel
theorem dX4_networkOf_18 : decode cX4_networkOf 18 = .ok (.iinc 3 1, 3) := by decide +kernel
theorem dX4_networkOf_21 : decode cX4_networkOf 21 = .ok (.goto (-15), 3) := by decide +kernel
theorem dX4_networkOf_24 : decode cX4_networkOf 24 = .ok (.iload_n 2, 1) := by decide +kernel
theorem dX4_networkOf_25 : decode cX4_networkOf 25 = .ok (.ireturn, 1) := by decide +kernel
theorem dX4_shareNetwork_0 : decode cX4_shareNetwork 0 = .ok (.aload_n 0, 1) := by decide +kernel
theorem dX4_shareNetwork_1 : decode cX4_shareNetwork 1 = .ok (.iload_n 1, 1) := by decide +kernel
theorem dX4_shareNetwork_2 : decode cX4_shareNetwork 2 = .ok (.invokevirtual 71, 3) := by decide +kernel
theorem dX4_shareNetwork_5 : decode cX4_shareNetwork 5 = .ok (.iload_n 2, 1) := by decide +kernel
theorem dX4_shareNetwork_6 : decode cX4_shareNetwork 6 = .ok (.invokestatic 59, 3) := by decide +kernel
theorem dX4_shareNetwork_9 : decode cX4_shareNetwork 9 = .ok (.ireturn, 1) := by decide +kernel
theorem dX4_hasUser_0 : decode cX4_hasUser 0 = .ok (.aload_n 0, 1) := by decide +kernel
theorem dX4_hasUser_1 : decode cX4_hasUser 1 = .ok (.getfield 28, 3) := by decide +kernel
theorem dX4_hasUser_4 : decode cX4_hasUser 4 = .ok (.iload_n 1, 1) := by decide +kernel
theorem dX4_hasUser_5 : decode cX4_hasUser 5 = .ok (.iload_n 2, 1) := by decide +kernel
theorem dX4_hasUser_6 : decode cX4_hasUser 6 = .ok (.invokestatic 74, 3) := by decide +kernel
theorem dX4_hasUser_9 : decode cX4_hasUser 9 = .ok (.iaload, 1) := by decide +kernel
theorem dX4_hasUser_10 : decode cX4_hasUser 10 = .ok (.iconst (-1), 1) := by decide +kernel
theorem dX4_hasUser_11 : decode cX4_hasUser 11 = .ok (.if_icmp .eq 7, 3) := by decide +kernel
theorem dX4_hasUser_14 : decode cX4_hasUser 14 = .ok (.iconst 1, 1) := by decide +kernel
theorem dX4_hasUser_15 : decode cX4_hasUser 15 = .ok (.goto 4, 3) := by decide +kernel
theorem dX4_hasUser_18 : decode cX4_hasUser 18 = .ok (.iconst 0, 1) := by decide +kernel
theorem dX4_hasUser_19 : decode cX4_hasUser 19 = .ok (.ireturn, 1) := by decide +kernel
theorem dX4_timeOfUser_0 : decode cX4_timeOfUser 0 = .ok (.aload_n 0, 1) := by decide +kernel
theorem dX4_timeOfUser_1 : decode cX4_timeOfUser 1 = .ok (.getfield 28, 3) := by decide +kernel
theorem dX4_timeOfUser_4 : decode cX4_timeOfUser 4 = .ok (.iload_n 1, 1) := by decide +kernel
theorem dX4_timeOfUser_5 : decode cX4_timeOfUser 5 = .ok (.iload_n 2, 1) := by decide +kernel
theorem dX4_timeOfUser_6 : decode cX4_timeOfUser 6 = .ok (.invokestatic 74, 3) := by decide +kernel
theorem dX4_timeOfUser_9 : decode cX4_timeOfUser 9 = .ok (.iaload, 1) := by decide +kernel
theorem dX4_timeOfUser_10 : decode cX4_timeOfUser 10 = .ok (.ireturn, 1) := by decide +kernel
theorem dX4_homeIn_0 : decode cX4_homeIn 0 = .ok (.iconst 0, 1) := by decide +kernel
theorem dX4_homeIn_1 : decode cX4_homeIn 1 = .ok (.istore_n 3, 1) := by decide +kernel
theorem dX4_homeIn_2 : decode cX4_homeIn 2 = .ok (.iload_n 3, 1) := by decide +kernel
theorem dX4_homeIn_3 : decode cX4_homeIn 3 = .ok (.bipush 6, 2) := by decide +kernel
theorem dX4_homeIn_5 : decode cX4_homeIn 5 = .ok (.if_icmp .ge 28, 3) := by decide +kernel
theorem dX4_homeIn_8 : decode cX4_homeIn 8 = .ok (.iload_n 1, 1) := by decide +kernel
theorem dX4_homeIn_9 : decode cX4_homeIn 9 = .ok (.iload_n 3, 1) := by decide +kernel
theorem dX4_homeIn_10 : decode cX4_homeIn 10 = .ok (.invokestatic 59, 3) := by decide +kernel
theorem dX4_homeIn_13 : decode cX4_homeIn 13 = .ok (.ifCond .eq 14, 3) := by decide +kernel
theorem dX4_homeIn_16 : decode cX4_homeIn 16 = .ok (.aload_n 0, 1) := by decide +kernel
theorem dX4_homeIn_17 : decode cX4_homeIn 17 = .ok (.iload_n 3, 1) := by decide +kernel
theorem dX4_homeIn_18 : decode cX4_homeIn 18 = .ok (.iload_n 2, 1) := by decide +kernel
theorem dX4_homeIn_19 : decode cX4_homeIn 19 = .ok (.invokevirtual 78, 3) := by decide +kernel
theorem dX4_homeIn_22 : decode cX4_homeIn 22 = .ok (.ifCond .eq 5, 3) := by decide +kernel
theorem dX4_homeIn_25 : decode cX4_homeIn 25 = .ok (.iload_n 3, 1) := by decide +kernel
theorem dX4_homeIn_26 : decode cX4_homeIn 26 = .ok (.ireturn, 1) := by decide +kernel
theorem dX4_homeIn_27 : decode cX4_homeIn 27 = .ok (.iinc 3 1, 3) := by decide +kernel
theorem dX4_homeIn_30 : decode cX4_homeIn 30 = .ok (.goto (-28), 3) := by decide +kernel
theorem dX4_homeIn_33 : decode cX4_homeIn 33 = .ok (.iconst (-1), 1) := by decide +kernel
theorem dX4_homeIn_34 : decode cX4_homeIn 34 = .ok (.ireturn, 1) := by decide +kernel
theorem dX4_timeOfNick_0 : decode cX4_timeOfNick 0 = .ok (.aload_n 0, 1) := by decide +kernel
theorem dX4_timeOfNick_1 : decode cX4_timeOfNick 1 = .ok (.iload_n 1, 1) := by decide +kernel
theorem dX4_timeOfNick_2 : decode cX4_timeOfNick 2 = .ok (.iload_n 2, 1) := by decide +kernel
theorem dX4_timeOfNick_3 : decode cX4_timeOfNick 3 = .ok (.invokevirtual 81, 3) := by decide +kernel
theorem dX4_timeOfNick_6 : decode cX4_timeOfNick 6 = .ok (.istore_n 3, 1) := by decide +kernel
theorem dX4_timeOfNick_7 : decode cX4_timeOfNick 7 = .ok (.iload_n 3, 1) := by decide +kernel
theorem dX4_timeOfNick_8 : decode cX4_timeOfNick 8 = .ok (.iconst (-1), 1) := by decide +kernel
theorem dX4_timeOfNick_9 : decode cX4_timeOfNick 9 = .ok (.if_icmp .ne 7, 3) := by decide +kernel
theorem dX4_timeOfNick_12 : decode cX4_timeOfNick 12 = .ok (.iconst (-1), 1) := by decide +kernel
theorem dX4_timeOfNick_13 : decode cX4_timeOfNick 13 = .ok (.goto 9, 3) := by decide +kernel
theorem dX4_timeOfNick_16 : decode cX4_timeOfNick 16 = .ok (.aload_n 0, 1) := by decide +kernel
theorem dX4_timeOfNick_17 : decode cX4_timeOfNick 17 = .ok (.iload_n 3, 1) := by decide +kernel
theorem dX4_timeOfNick_18 : decode cX4_timeOfNick 18 = .ok (.iload_n 2, 1) := by decide +kernel
theorem dX4_timeOfNick_19 : decode cX4_timeOfNick 19 = .ok (.invokevirtual 84, 3) := by decide +kernel
theorem dX4_timeOfNick_22 : decode cX4_timeOfNick 22 = .ok (.ireturn, 1) := by decide +kernel
theorem dX4_nicksIn_0 : decode cX4_nicksIn 0 = .ok (.iconst 0, 1) := by decide +kernel
theorem dX4_nicksIn_1 : decode cX4_nicksIn 1 = .ok (.istore_n 2, 1) := by decide +kernel
theorem dX4_nicksIn_2 : decode cX4_nicksIn 2 = .ok (.iconst 0, 1) := by decide +kernel
theorem dX4_nicksIn_3 : decode cX4_nicksIn 3 = .ok (.istore_n 3, 1) := by decide +kernel
theorem dX4_nicksIn_4 : decode cX4_nicksIn 4 = .ok (.iload_n 3, 1) := by decide +kernel
theorem dX4_nicksIn_5 : decode cX4_nicksIn 5 = .ok (.bipush 10, 2) := by decide +kernel
theorem dX4_nicksIn_7 : decode cX4_nicksIn 7 = .ok (.if_icmp .ge 30, 3) := by decide +kernel
theorem dX4_nicksIn_10 : decode cX4_nicksIn 10 = .ok (.iload_n 2, 1) := by decide +kernel
theorem dX4_nicksIn_11 : decode cX4_nicksIn 11 = .ok (.iload_n 3, 1) := by decide +kernel
theorem dX4_nicksIn_12 : decode cX4_nicksIn 12 = .ok (.aload_n 0, 1) := by decide +kernel
theorem dX4_nicksIn_13 : decode cX4_nicksIn 13 = .ok (.iload_n 1, 1) := by decide +kernel
theorem dX4_nicksIn_14 : decode cX4_nicksIn 14 = .ok (.iload_n 3, 1) := by decide +kernel
theorem dX4_nicksIn_15 : decode cX4_nicksIn 15 = .ok (.invokevirtual 81, 3) := by decide +kernel
theorem dX4_nicksIn_18 : decode cX4_nicksIn 18 = .ok (.iconst (-1), 1) := by decide +kernel
theorem dX4_nicksIn_19 : decode cX4_nicksIn 19 = .ok (.if_icmp .eq 7, 3) := by decide +kernel
theorem dX4_nicksIn_22 : decode cX4_nicksIn 22 = .ok (.iconst 1, 1) := by decide +kernel
theorem dX4_nicksIn_23 : decode cX4_nicksIn 23 = .ok (.goto 4, 3) := by decide +kernel
theorem dX4_nicksIn_26 : decode cX4_nicksIn 26 = .ok (.iconst 0, 1) := by decide +kernel
theorem dX4_nicksIn_27 : decode cX4_nicksIn 27 = .ok (.invokestatic 63, 3) := by decide +kernel
theorem dX4_nicksIn_30 : decode cX4_nicksIn 30 = .ok (.istore_n 2, 1) := by decide +kernel
theorem dX4_nicksIn_31 : decode cX4_nicksIn 31 = .ok (.iinc 3 1, 3) := by decide +kernel
theorem dX4_nicksIn_34 : decode cX4_nicksIn 34 = .ok (.goto (-30), 3) := by decide +kernel
theorem dX4_nicksIn_37 : decode cX4_nicksIn 37 = .ok (.iload_n 2, 1) := by decide +kernel
theorem dX4_nicksIn_38 : decode cX4_nicksIn 38 = .ok (.ireturn, 1) := by decide +kernel
theorem dX4_countUsers_0 : decode cX4_countUsers 0 = .ok (.iconst 0, 1) := by decide +kernel
theorem dX4_countUsers_1 : decode cX4_countUsers 1 = .ok (.istore_n 2, 1) := by decide +kernel
theorem dX4_countUsers_2 : decode cX4_countUsers 2 = .ok (.iconst 0, 1) := by decide +kernel
theorem dX4_countUsers_3 : decode cX4_countUsers 3 = .ok (.istore_n 3, 1) := by decide +kernel
theorem dX4_countUsers_4 : decode cX4_countUsers 4 = .ok (.iload_n 3, 1) := by decide +kernel
theorem dX4_countUsers_5 : decode cX4_countUsers 5 = .ok (.bipush 6, 2) := by decide +kernel
theorem dX4_countUsers_7 : decode cX4_countUsers 7 = .ok (.if_icmp .ge 46, 3) := by decide +kernel
theorem dX4_countUsers_10 : decode cX4_countUsers 10 = .ok (.iconst 0, 1) := by decide +kernel
theorem dX4_countUsers_11 : decode cX4_countUsers 11 = .ok (.istore 4, 2) := by decide +kernel
theorem dX4_countUsers_13 : decode cX4_countUsers 13 = .ok (.iload 4, 2) := by decide +kernel
theorem dX4_countUsers_15 : decode cX4_countUsers 15 = .ok (.bipush 10, 2) := by decide +kernel
theorem dX4_countUsers_17 : decode cX4_countUsers 17 = .ok (.if_icmp .ge 30, 3) := by decide +kernel
theorem dX4_countUsers_20 : decode cX4_countUsers 20 = .ok (.iload_n 1, 1) := by decide +kernel
theorem dX4_countUsers_21 : decode cX4_countUsers 21 = .ok (.iload_n 3, 1) := by decide +kernel
theorem dX4_countUsers_22 : decode cX4_countUsers 22 = .ok (.invokestatic 59, 3) := by decide +kernel
theorem dX4_countUsers_25 : decode cX4_countUsers 25 = .ok (.ifCond .eq 16, 3) := by decide +kernel
theorem dX4_countUsers_28 : decode cX4_countUsers 28 = .ok (.aload_n 0, 1) := by decide +kernel
theorem dX4_countUsers_29 : decode cX4_countUsers 29 = .ok (.iload_n 3, 1) := by decide +kernel
theorem dX4_countUsers_30 : decode cX4_countUsers 30 = .ok (.iload 4, 2) := by decide +kernel
theorem dX4_countUsers_32 : decode cX4_countUsers 32 = .ok (.invokevirtual 78, 3) := by decide +kernel
theorem dX4_countUsers_35 : decode cX4_countUsers 35 = .ok (.ifCond .eq 6, 3) := by decide +kernel
theorem dX4_countUsers_38 : decode cX4_countUsers 38 = .ok (.iinc 2 1, 3) := by decide +kernel
theorem dX4_countUsers_41 : decode cX4_countUsers 41 = .ok (.iinc 4 1, 3) := by decide +kernel
theorem dX4_countUsers_44 : decode cX4_countUsers 44 = .ok (.goto (-31), 3) := by decide +kernel
theorem dX4_countUsers_47 : decode cX4_countUsers 47 = .ok (.iinc 3 1, 3) := by decide +kernel
theorem dX4_countUsers_50 : decode cX4_countUsers 50 = .ok (.goto (-46), 3) := by decide +kernel
theorem dX4_countUsers_53 : decode cX4_countUsers 53 = .ok (.iload_n 2, 1) := by decide +kernel
theorem dX4_countUsers_54 : decode cX4_countUsers 54 = .ok (.ireturn, 1) := by decide +kernel
theorem dX4_countChannelsOf_0 : decode cX4_countChannelsOf 0 = .ok (.iconst 0, 1) := by decide +kernel
theorem dX4_countChannelsOf_1 : decode cX4_countChannelsOf 1 = .ok (.istore_n 3, 1) := by decide +kernel
theorem dX4_countChannelsOf_2 : decode cX4_countChannelsOf 2 = .ok (.iconst 0, 1) := by decide +kernel
theorem dX4_countChannelsOf_3 : decode cX4_countChannelsOf 3 = .ok (.istore 4, 2) := by decide +kernel
theorem dX4_countChannelsOf_5 : decode cX4_countChannelsOf 5 = .ok (.iload 4, 2) := by decide +kernel
theorem dX4_countChannelsOf_7 : decode cX4_countChannelsOf 7 = .ok (.iconst 4, 1) := by decide +kernel
theorem dX4_countChannelsOf_8 : decode cX4_countChannelsOf 8 = .ok (.if_icmp .ge 23, 3) := by decide +kernel
theorem dX4_countChannelsOf_11 : decode cX4_countChannelsOf 11 = .ok (.aload_n 0, 1) := by decide +kernel
theorem dX4_countChannelsOf_12 : decode cX4_countChannelsOf 12 = .ok (.iload_n 1, 1) := by decide +kernel
theorem dX4_countChannelsOf_13 : decode cX4_countChannelsOf 13 = .ok (.iload_n 2, 1) := by decide +kernel
theorem dX4_countChannelsOf_14 : decode cX4_countChannelsOf 14 = .ok (.iload 4, 2) := by decide +kernel
theorem dX4_countChannelsOf_16 : decode cX4_countChannelsOf 16 = .ok (.invokevirtual 87, 3) := by decide +kernel
theorem dX4_countChannelsOf_19 : decode cX4_countChannelsOf 19 = .ok (.ifCond .eq 6, 3) := by decide +kernel
theorem dX4_countChannelsOf_22 : decode cX4_countChannelsOf 22 = .ok (.iinc 3 1, 3) := by decide +kernel
theorem dX4_countChannelsOf_25 : decode cX4_countChannelsOf 25 = .ok (.iinc 4 1, 3) := by decide +kernel
theorem dX4_countChannelsOf_28 : decode cX4_countChannelsOf 28 = .ok (.goto (-23), 3) := by decide +kernel
theorem dX4_countChannelsOf_31 : decode cX4_countChannelsOf 31 = .ok (.iload_n 3, 1) := by decide +kernel
theorem dX4_countChannelsOf_32 : decode cX4_countChannelsOf 32 = .ok (.ireturn, 1) := by decide +kernel
theorem dX4_addUser_0 : decode cX4_addUser 0 = .ok (.aload_n 0, 1) := by decide +kernel
theorem dX4_addUser_1 : decode cX4_addUser 1 = .ok (.getfield 28, 3) := by decide +kernel
theorem dX4_addUser_4 : decode cX4_addUser 4 = .ok (.iload_n 1, 1) := by decide +kernel
theorem dX4_addUser_5 : decode cX4_addUser 5 = .ok (.iload_n 2, 1) := by decide +kernel
theorem dX4_addUser_6 : decode cX4_addUser 6 = .ok (.invokestatic 74, 3) := by decide +kernel
theorem dX4_addUser_9 : decode cX4_addUser 9 = .ok (.aload_n 0, 1) := by decide +kernel
theorem dX4_addUser_10 : decode cX4_addUser 10 = .ok (.getfield 15, 3) := by decide +kernel
theorem dX4_addUser_13 : decode cX4_addUser 13 = .ok (.iastore, 1) := by decide +kernel
theorem dX4_addUser_14 : decode cX4_addUser 14 = .ok (.return_, 1) := by decide +kernel
theorem dX4_removeUser_0 : decode cX4_removeUser 0 = .ok (.aload_n 0, 1) := by decide +kernel
theorem dX4_removeUser_1 : decode cX4_removeUser 1 = .ok (.getfield 28, 3) := by decide +kernel
theorem dX4_removeUser_4 : decode cX4_removeUser 4 = .ok (.iload_n 1, 1) := by decide +kernel
theorem dX4_removeUser_5 : decode cX4_removeUser 5 = .ok (.iload_n 2, 1) := by decide +kernel
theorem dX4_removeUser_6 : decode cX4_removeUser 6 = .ok (.invokestatic 74, 3) := by decide +kernel
theorem dX4_removeUser_9 : decode cX4_removeUser 9 = .ok (.iconst (-1), 1) := by decide +kernel
theorem dX4_removeUser_10 : decode cX4_removeUser 10 = .ok (.iastore, 1) := by decide +kernel
theorem dX4_removeUser_11 : decode cX4_removeUser 11 = .ok (.iconst 0, 1) := by decide +kernel
theorem dX4_removeUser_12 : decode cX4_removeUser 12 = .ok (.istore_n 3, 1) := by decide +kernel
theorem dX4_removeUser_13 : decode cX4_removeUser 13 = .ok (.iload_n 3, 1) := by decide +kernel
theorem dX4_removeUser_14 : decode cX4_removeUser 14 = .ok (.iconst 4, 1) := by decide +kernel
theorem dX4_removeUser_15 : decode cX4_removeUser 15 = .ok (.if_icmp .ge 16, 3) := by decide +kernel
theorem dX4_removeUser_18 : decode cX4_removeUser 18 = .ok (.aload_n 0, 1) := by decide +kernel
theorem dX4_removeUser_19 : decode cX4_removeUser 19 = .ok (.iload_n 1, 1) := by decide +kernel
theorem dX4_removeUser_20 : decode cX4_removeUser 20 = .ok (.iload_n 2, 1) := by decide +kernel
theorem dX4_removeUser_21 : decode cX4_removeUser 21 = .ok (.iload_n 3, 1) := by decide +kernel
theorem dX4_removeUser_22 : decode cX4_removeUser 22 = .ok (.invokevirtual 91, 3) := by decide +kernel
theorem dX4_removeUser_25 : decode cX4_removeUser 25 = .ok (.iinc 3 1, 3) := by decide +kernel
theorem dX4_removeUser_28 : decode cX4_removeUser 28 = .ok (.goto (-15), 3) := by decide +kernel
theorem dX4_removeUser_31 : decode cX4_removeUser 31 = .ok (.return_, 1) := by decide +kernel
theorem dX4_renameUser_0 : decode cX4_renameUser 0 = .ok (.aload_n 0, 1) := by decide +kernel
theorem dX4_renameUser_1 : decode cX4_renameUser 1 = .ok (.iload_n 1, 1) := by decide +kernel
theorem dX4_renameUser_2 : decode cX4_renameUser 2 = .ok (.iload_n 3, 1) := by decide +kernel
theorem dX4_renameUser_3 : decode cX4_renameUser 3 = .ok (.invokevirtual 95, 3) := by decide +kernel
theorem dX4_renameUser_6 : decode cX4_renameUser 6 = .ok (.iconst 0, 1) := by decide +kernel
theorem dX4_renameUser_7 : decode cX4_renameUser 7 = .ok (.istore 4, 2) := by decide +kernel
theorem dX4_renameUser_9 : decode cX4_renameUser 9 = .ok (.iload 4, 2) := by decide +kernel
theorem dX4_renameUser_11 : decode cX4_renameUser 11 = .ok (.iconst 4, 1) := by decide +kernel
theorem dX4_renameUser_12 : decode cX4_renameUser 12 = .ok (.if_icmp .ge 47, 3) := by decide +kernel
theorem dX4_renameUser_15 : decode cX4_renameUser 15 = .ok (.aload_n 0, 1) := by decide +kernel
theorem dX4_renameUser_16 : decode cX4_renameUser 16 = .ok (.iload_n 1, 1) := by decide +kernel
theorem dX4_renameUser_17 : decode cX4_renameUser 17 = .ok (.iload_n 2, 1) := by decide +kernel
theorem dX4_renameUser_18 : decode cX4_renameUser 18 = .ok (.iload 4, 2) := by decide +kernel
theorem dX4_renameUser_20 : decode cX4_renameUser 20 = .ok (.invokevirtual 87, 3) := by decide +kernel
theorem dX4_renameUser_23 : decode cX4_renameUser 23 = .ok (.ifCond .eq 11, 3) := by decide +kernel
theorem dX4_renameUser_26 : decode cX4_renameUser 26 = .ok (.aload_n 0, 1) := by decide +kernel
theorem dX4_renameUser_27 : decode cX4_renameUser 27 = .ok (.iload_n 1, 1) := by decide +kernel
theorem dX4_renameUser_28 : decode cX4_renameUser 28 = .ok (.iload_n 3, 1) := by decide +kernel
theorem dX4_renameUser_29 : decode cX4_renameUser 29 = .ok (.iload 4, 2) := by decide +kernel
theorem dX4_renameUser_31 : decode cX4_renameUser 31 = .ok (.invokevirtual 99, 3) := by decide +kernel
theorem dX4_renameUser_34 : decode cX4_renameUser 34 = .ok (.aload_n 0, 1) := by decide +kernel
theorem dX4_renameUser_35 : decode cX4_renameUser 35 = .ok (.iload_n 1, 1) := by decide +kernel
theorem dX4_renameUser_36 : decode cX4_renameUser 36 = .ok (.iload_n 2, 1) := by decide +kernel
theorem dX4_renameUser_37 : decode cX4_renameUser 37 = .ok (.iload 4, 2) := by decide +kernel
theorem dX4_renameUser_39 : decode cX4_renameUser 39 = .ok (.invokevirtual 102, 3) := by decide +kernel
theorem dX4_renameUser_42 : decode cX4_renameUser 42 = .ok (.ifCond .eq 11, 3) := by decide +kernel
theorem dX4_renameUser_45 : decode cX4_renameUser 45 = .ok (.aload_n 0, 1) := by decide +kernel
theorem dX4_renameUser_46 : decode cX4_renameUser 46 = .ok (.iload_n 1, 1) := by decide +kernel
theorem dX4_renameUser_47 : decode cX4_renameUser 47 = .ok (.iload_n 3, 1) := by decide +kernel
theorem dX4_renameUser_48 : decode cX4_renameUser 48 = .ok (.iload 4, 2) := by decide +kernel
theorem dX4_renameUser_50 : decode cX4_renameUser 50 = .ok (.invokevirtual 105, 3) := by decide +kernel
theorem dX4_renameUser_53 : decode cX4_renameUser 53 = .ok (.iinc 4 1, 3) := by decide +kernel
theorem dX4_renameUser_56 : decode cX4_renameUser 56 = .ok (.goto (-47), 3) := by decide +kernel
theorem dX4_renameUser_59 : decode cX4_renameUser 59 = .ok (.aload_n 0, 1) := by decide +kernel
theorem dX4_renameUser_60 : decode cX4_renameUser 60 = .ok (.iload_n 1, 1) := by decide +kernel
theorem dX4_renameUser_61 : decode cX4_renameUser 61 = .ok (.iload_n 2, 1) := by decide +kernel
theorem dX4_renameUser_62 : decode cX4_renameUser 62 = .ok (.invokevirtual 108, 3) := by decide +kernel
theorem dX4_renameUser_65 : decode cX4_renameUser 65 = .ok (.return_, 1) := by decide +kernel
theorem dX4_isMember_0 : decode cX4_isMember 0 = .ok (.aload_n 0, 1) := by decide +kernel
theorem dX4_isMember_1 : decode cX4_isMember 1 = .ok (.getfield 31, 3) := by decide +kernel
theorem dX4_isMember_4 : decode cX4_isMember 4 = .ok (.iload_n 1, 1) := by decide +kernel
theorem dX4_isMember_5 : decode cX4_isMember 5 = .ok (.iload_n 3, 1) := by decide +kernel
theorem dX4_isMember_6 : decode cX4_isMember 6 = .ok (.invokestatic 111, 3) := by decide +kernel
theorem dX4_isMember_9 : decode cX4_isMember 9 = .ok (.iaload, 1) := by decide +kernel
theorem dX4_isMember_10 : decode cX4_isMember 10 = .ok (.iload_n 2, 1) := by decide +kernel
theorem dX4_isMember_11 : decode cX4_isMember 11 = .ok (.invokestatic 59, 3) := by decide +kernel
theorem dX4_isMember_14 : decode cX4_isMember 14 = .ok (.ireturn, 1) := by decide +kernel
theorem dX4_isOperator_0 : decode cX4_isOperator 0 = .ok (.aload_n 0, 1) := by decide +kernel
theorem dX4_isOperator_1 : decode cX4_isOperator 1 = .ok (.getfield 34, 3) := by decide +kernel
theorem dX4_isOperator_4 : decode cX4_isOperator 4 = .ok (.iload_n 1, 1) := by decide +kernel
theorem dX4_isOperator_5 : decode cX4_isOperator 5 = .ok (.iload_n 3, 1) := by decide +kernel
theorem dX4_isOperator_6 : decode cX4_isOperator 6 = .ok (.invokestatic 111, 3) := by decide +kernel
theorem dX4_isOperator_9 : decode cX4_isOperator 9 = .ok (.iaload, 1) := by decide +kernel
theorem dX4_isOperator_10 : decode cX4_isOperator 10 = .ok (.iload_n 2, 1) := by decide +kernel
theorem dX4_isOperator_11 : decode cX4_isOperator 11 = .ok (.invokestatic 59, 3) := by decide +kernel
theorem dX4_isOperator_14 : decode cX4_isOperator 14 = .ok (.ireturn, 1) := by decide +kernel
theorem dX4_addMember_0 : decode cX4_addMember 0 = .ok (.iload_n 1, 1) := by decide +kernel
theorem dX4_addMember_1 : decode cX4_addMember 1 = .ok (.iload_n 3, 1) := by decide +kernel
theorem dX4_addMember_2 : decode cX4_addMember 2 = .ok (.invokestatic 111, 3) := by decide +kernel
theorem dX4_addMember_5 : decode cX4_addMember 5 = .ok (.istore 4, 2) := by decide +kernel
theorem dX4_addMember_7 : decode cX4_addMember 7 = .ok (.aload_n 0, 1) := by decide +kernel
theorem dX4_addMember_8 : decode cX4_addMember 8 = .ok (.getfield 31, 3) := by decide +kernel
theorem dX4_addMember_11 : decode cX4_addMember 11 = .ok (.iload 4, 2) := by decide +kernel
theorem dX4_addMember_13 : decode cX4_addMember 13 = .ok (.aload_n 0, 1) := by decide +kernel
theorem dX4_addMember_14 : decode cX4_addMember 14 = .ok (.getfield 31, 3) := by decide +kernel
theorem dX4_addMember_17 : decode cX4_addMember 17 = .ok (.iload 4, 2) := by decide +kernel
theorem dX4_addMember_19 : decode cX4_addMember 19 = .ok (.iaload, 1) := by decide +kernel
theorem dX4_addMember_20 : decode cX4_addMember 20 = .ok (.iload_n 2, 1) := by decide +kernel
theorem dX4_addMember_21 : decode cX4_addMember 21 = .ok (.iconst 1, 1) := by decide +kernel
theorem dX4_addMember_22 : decode cX4_addMember 22 = .ok (.invokestatic 63, 3) := by decide +kernel
theorem dX4_addMember_25 : decode cX4_addMember 25 = .ok (.iastore, 1) := by decide +kernel
theorem dX4_addMember_26 : decode cX4_addMember 26 = .ok (.return_, 1) := by decide +kernel
theorem dX4_addOperator_0 : decode cX4_addOperator 0 = .ok (.iload_n 1, 1) := by decide +kernel
theorem dX4_addOperator_1 : decode cX4_addOperator 1 = .ok (.iload_n 3, 1) := by decide +kernel
theorem dX4_addOperator_2 : decode cX4_addOperator 2 = .ok (.invokestatic 111, 3) := by decide +kernel
theorem dX4_addOperator_5 : decode cX4_addOperator 5 = .ok (.istore 4, 2) := by decide +kernel
theorem dX4_addOperator_7 : decode cX4_addOperator 7 = .ok (.aload_n 0, 1) := by decide +kernel
theorem dX4_addOperator_8 : decode cX4_addOperator 8 = .ok (.getfield 34, 3) := by decide +kernel
theorem dX4_addOperator_11 : decode cX4_addOperator 11 = .ok (.iload 4, 2) := by decide +kernel
theorem dX4_addOperator_13 : decode cX4_addOperator 13 = .ok (.aload_n 0, 1) := by decide +kernel
theorem dX4_addOperator_14 : decode cX4_addOperator 14 = .ok (.getfield 34, 3) := by decide +kernel
theorem dX4_addOperator_17 : decode cX4_addOperator 17 = .ok (.iload 4, 2) := by decide +kernel
theorem dX4_addOperator_19 : decode cX4_addOperator 19 = .ok (.iaload, 1) := by decide +kernel
theorem dX4_addOperator_20 : decode cX4_addOperator 20 = .ok (.iload_n 2, 1) := by decide +kernel
theorem dX4_addOperator_21 : decode cX4_addOperator 21 = .ok (.iconst 1, 1) := by decide +kernel
theorem dX4_addOperator_22 : decode cX4_addOperator 22 = .ok (.invokestatic 63, 3) := by decide +kernel
theorem dX4_addOperator_25 : decode cX4_addOperator 25 = .ok (.iastore, 1) := by decide +kernel
theorem dX4_addOperator_26 : decode cX4_addOperator 26 = .ok (.return_, 1) := by decide +kernel
theorem dX4_removeMember_0 : decode cX4_removeMember 0 = .ok (.iload_n 1, 1) := by decide +kernel
theorem dX4_removeMember_1 : decode cX4_removeMember 1 = .ok (.iload_n 3, 1) := by decide +kernel
theorem dX4_removeMember_2 : decode cX4_removeMember 2 = .ok (.invokestatic 111, 3) := by decide +kernel
theorem dX4_removeMember_5 : decode cX4_removeMember 5 = .ok (.istore 4, 2) := by decide +kernel
theorem dX4_removeMember_7 : decode cX4_removeMember 7 = .ok (.aload_n 0, 1) := by decide +kernel
theorem dX4_removeMember_8 : decode cX4_removeMember 8 = .ok (.getfield 31, 3) := by decide +kernel
theorem dX4_removeMember_11 : decode cX4_removeMember 11 = .ok (.iload 4, 2) := by decide +kernel
theorem dX4_removeMember_13 : decode cX4_removeMember 13 = .ok (.aload_n 0, 1) := by decide +kernel
theorem dX4_removeMember_14 : decode cX4_removeMember 14 = .ok (.getfield 31, 3) := by decide +kernel
theorem dX4_removeMember_17 : decode cX4_removeMember 17 = .ok (.iload 4, 2) := by decide +kernel
theorem dX4_removeMember_19 : decode cX4_removeMember 19 = .ok (.iaload, 1) := by decide +kernel
theorem dX4_removeMember_20 : decode cX4_removeMember 20 = .ok (.iload_n 2, 1) := by decide +kernel
theorem dX4_removeMember_21 : decode cX4_removeMember 21 = .ok (.iconst 0, 1) := by decide +kernel
theorem dX4_removeMember_22 : decode cX4_removeMember 22 = .ok (.invokestatic 63, 3) := by decide +kernel
theorem dX4_removeMember_25 : decode cX4_removeMember 25 = .ok (.iastore, 1) := by decide +kernel
theorem dX4_removeMember_26 : decode cX4_removeMember 26 = .ok (.aload_n 0, 1) := by decide +kernel
theorem dX4_removeMember_27 : decode cX4_removeMember 27 = .ok (.getfield 34, 3) := by decide +kernel
theorem dX4_removeMember_30 : decode cX4_removeMember 30 = .ok (.iload 4, 2) := by decide +kernel
theorem dX4_removeMember_32 : decode cX4_removeMember 32 = .ok (.aload_n 0, 1) := by decide +kernel
theorem dX4_removeMember_33 : decode cX4_removeMember 33 = .ok (.getfield 34, 3) := by decide +kernel
theorem dX4_removeMember_36 : decode cX4_removeMember 36 = .ok (.iload 4, 2) := by decide +kernel
theorem dX4_removeMember_38 : decode cX4_removeMember 38 = .ok (.iaload, 1) := by decide +kernel
theorem dX4_removeMember_39 : decode cX4_removeMember 39 = .ok (.iload_n 2, 1) := by decide +kernel
theorem dX4_removeMember_40 : decode cX4_removeMember 40 = .ok (.iconst 0, 1) := by decide +kernel
theorem dX4_removeMember_41 : decode cX4_removeMember 41 = .ok (.invokestatic 63, 3) := by decide +kernel
theorem dX4_removeMember_44 : decode cX4_removeMember 44 = .ok (.iastore, 1) := by decide +kernel
theorem dX4_removeMember_45 : decode cX4_removeMember 45 = .ok (.return_, 1) := by decide +kernel
theorem dX4_membersIn_0 : decode cX4_membersIn 0 = .ok (.aload_n 0, 1) := by decide +kernel
theorem dX4_membersIn_1 : decode cX4_membersIn 1 = .ok (.getfield 31, 3) := by decide +kernel
theorem dX4_membersIn_4 : decode cX4_membersIn 4 = .ok (.iload_n 1, 1) := by decide +kernel
theorem dX4_membersIn_5 : decode cX4_membersIn 5 = .ok (.iload_n 2, 1) := by decide +kernel
theorem dX4_membersIn_6 : decode cX4_membersIn 6 = .ok (.invokestatic 114, 3) := by decide +kernel
theorem dX4_membersIn_9 : decode cX4_membersIn 9 = .ok (.ireturn, 1) := by decide +kernel
theorem dX4_operatorsIn_0 : decode cX4_operatorsIn 0 = .ok (.aload_n 0, 1) := by decide +kernel
theorem dX4_operatorsIn_1 : decode cX4_operatorsIn 1 = .ok (.getfield 34, 3) := by decide +kernel
theorem dX4_operatorsIn_4 : decode cX4_operatorsIn 4 = .ok (.iload_n 1, 1) := by decide +kernel
theorem dX4_operatorsIn_5 : decode cX4_operatorsIn 5 = .ok (.iload_n 2, 1) := by decide +kernel
theorem dX4_operatorsIn_6 : decode cX4_operatorsIn 6 = .ok (.invokestatic 114, 3) := by decide +kernel
theorem dX4_operatorsIn_9 : decode cX4_operatorsIn 9 = .ok (.ireturn, 1) := by decide +kernel
theorem dX4_unionOf_0 : decode cX4_unionOf 0 = .ok (.iconst 0, 1) := by decide +kernel
theorem dX4_unionOf_1 : decode cX4_unionOf 1 = .ok (.istore_n 3, 1) := by decide +kernel
theorem dX4_unionOf_2 : decode cX4_unionOf 2 = .ok (.iconst 0, 1) := by decide +kernel
theorem dX4_unionOf_3 : decode cX4_unionOf 3 = .ok (.istore 4, 2) := by decide +kernel
theorem dX4_unionOf_5 : decode cX4_unionOf 5 = .ok (.iload 4, 2) := by decide +kernel
theorem dX4_unionOf_7 : decode cX4_unionOf 7 = .ok (.bipush 6, 2) := by decide +kernel
theorem dX4_unionOf_9 : decode cX4_unionOf 9 = .ok (.if_icmp .ge 29, 3) := by decide +kernel
theorem dX4_unionOf_12 : decode cX4_unionOf 12 = .ok (.iload_n 1, 1) := by decide +kernel
theorem dX4_unionOf_13 : decode cX4_unionOf 13 = .ok (.iload 4, 2) := by decide +kernel
theorem dX4_unionOf_15 : decode cX4_unionOf 15 = .ok (.invokestatic 59, 3) := by decide +kernel
theorem dX4_unionOf_18 : decode cX4_unionOf 18 = .ok (.ifCond .eq 14, 3) := by decide +kernel
theorem dX4_unionOf_21 : decode cX4_unionOf 21 = .ok (.iload_n 3, 1) := by decide +kernel
theorem dX4_unionOf_22 : decode cX4_unionOf 22 = .ok (.aload_n 0, 1) := by decide +kernel
theorem dX4_unionOf_23 : decode cX4_unionOf 23 = .ok (.iload 4, 2) := by decide +kernel
theorem dX4_unionOf_25 : decode cX4_unionOf 25 = .ok (.iload_n 2, 1) := by decide +kernel
theorem dX4_unionOf_26 : decode cX4_unionOf 26 = .ok (.invokestatic 111, 3) := by decide +kernel
theorem dX4_unionOf_29 : decode cX4_unionOf 29 = .ok (.iaload, 1) := by decide +kernel
theorem dX4_unionOf_30 : decode cX4_unionOf 30 = .ok (.ior, 1) := by decide +kernel
theorem dX4_unionOf_31 : decode cX4_unionOf 31 = .ok (.istore_n 3, 1) := by decide +kernel
theorem dX4_unionOf_32 : decode cX4_unionOf 32 = .ok (.iinc 4 1, 3) := by decide +kernel
theorem dX4_unionOf_35 : decode cX4_unionOf 35 = .ok (.goto (-30), 3) := by decide +kernel
theorem dX4_unionOf_38 : decode cX4_unionOf 38 = .ok (.iload_n 3, 1) := by decide +kernel
theorem dX4_unionOf_39 : decode cX4_unionOf 39 = .ok (.ireturn, 1) := by decide +kernel
theorem dX4_setOperators_0 : decode cX4_setOperators 0 = .ok (.iconst 0, 1) := by decide +kernel
theorem dX4_setOperators_1 : decode cX4_setOperators 1 = .ok (.istore 4, 2) := by decide +kernel
theorem dX4_setOperators_3 : decode cX4_setOperators 3 = .ok (.iload 4, 2) := by decide +kernel
theorem dX4_setOperators_5 : decode cX4_setOperators 5 = .ok (.bipush 6, 2) := by decide +kernel
theorem dX4_setOperators_7 : decode cX4_setOperators 7 = .ok (.if_icmp .ge 42, 3) := by decide +kernel
theorem dX4_setOperators_10 : decode cX4_setOperators 10 = .ok (.iload_n 1, 1) := by decide +kernel
theorem dX4_setOperators_11 : decode cX4_setOperators 11 = .ok (.iload 4, 2) := by decide +kernel
theorem dX4_setOperators_13 : decode cX4_setOperators 13 = .ok (.invokestatic 59, 3) := by decide +kernel
theorem dX4_setOperators_16 : decode cX4_setOperators 16 = .ok (.ifCond .eq 27, 3) := by decide +kernel
theorem dX4_setOperators_19 : decode cX4_setOperators 19 = .ok (.iload 4, 2) := by decide +kernel
theorem dX4_setOperators_21 : decode cX4_setOperators 21 = .ok (.iload_n 2, 1) := by decide +kernel
theorem dX4_setOperators_22 : decode cX4_setOperators 22 = .ok (.invokestatic 111, 3) := by decide +kernel
theorem dX4_setOperators_25 : decode cX4_setOperators 25 = .ok (.istore 5, 2) := by decide +kernel
theorem dX4_setOperators_27 : decode cX4_setOperators 27 = .ok (.aload_n 0, 1) := by decide +kernel
theorem dX4_setOperators_28 : decode cX4_setOperators 28 = .ok (.getfield 34, 3) := by decide +kernel
theorem dX4_setOperators_31 : decode cX4_setOperators 31 = .ok (.iload 5, 2) := by decide +kernel
theorem dX4_setOperators_33 : decode cX4_setOperators 33 = .ok (.aload_n 0, 1) := by decide +kernel
theorem dX4_setOperators_34 : decode cX4_setOperators 34 = .ok (.getfield 31, 3) := by decide +kernel
theorem dX4_setOperators_37 : decode cX4_setOperators 37 = .ok (.iload 5, 2) := by decide +kernel
theorem dX4_setOperators_39 : decode cX4_setOperators 39 = .ok (.iaload, 1) := by decide +kernel
theorem dX4_setOperators_40 : decode cX4_setOperators 40 = .ok (.iload_n 3, 1) := by decide +kernel
theorem dX4_setOperators_41 : decode cX4_setOperators 41 = .ok (.iand, 1) := by decide +kernel
theorem dX4_setOperators_42 : decode cX4_setOperators 42 = .ok (.iastore, 1) := by decide +kernel
theorem dX4_setOperators_43 : decode cX4_setOperators 43 = .ok (.iinc 4 1, 3) := by decide +kernel
theorem dX4_setOperators_46 : decode cX4_setOperators 46 = .ok (.goto (-43), 3) := by decide +kernel
theorem dX4_setOperators_49 : decode cX4_setOperators 49 = .ok (.return_, 1) := by decide +kernel
theorem dX4_hasChannel_0 : decode cX4_hasChannel 0 = .ok (.aload_n 0, 1) := by decide +kernel
theorem dX4_hasChannel_1 : decode cX4_hasChannel 1 = .ok (.aload_n 0, 1) := by decide +kernel
theorem dX4_hasChannel_2 : decode cX4_hasChannel 2 = .ok (.iload_n 1, 1) := by decide +kernel
theorem dX4_hasChannel_3 : decode cX4_hasChannel 3 = .ok (.invokevirtual 71, 3) := by decide +kernel
theorem dX4_hasChannel_6 : decode cX4_hasChannel 6 = .ok (.iload_n 2, 1) := by decide +kernel
theorem dX4_hasChannel_7 : decode cX4_hasChannel 7 = .ok (.invokevirtual 118, 3) := by decide +kernel
theorem dX4_hasChannel_10 : decode cX4_hasChannel 10 = .ok (.ifCond .eq 7, 3) := by decide +kernel
theorem dX4_hasChannel_13 : decode cX4_hasChannel 13 = .ok (.iconst 1, 1) := by decide +kernel
theorem dX4_hasChannel_14 : decode cX4_hasChannel 14 = .ok (.goto 4, 3) := by decide +kernel
theorem dX4_hasChannel_17 : decode cX4_hasChannel 17 = .ok (.iconst 0, 1) := by decide +kernel
theorem dX4_hasChannel_18 : decode cX4_hasChannel 18 = .ok (.ireturn, 1) := by decide +kernel
theorem dX4_timeOfChannel_0 : decode cX4_timeOfChannel 0 = .ok (.aload_n 0, 1) := by decide +kernel
theorem dX4_timeOfChannel_1 : decode cX4_timeOfChannel 1 = .ok (.getfield 37, 3) := by decide +kernel
theorem dX4_timeOfChannel_4 : decode cX4_timeOfChannel 4 = .ok (.iload_n 1, 1) := by decide +kernel
theorem dX4_timeOfChannel_5 : decode cX4_timeOfChannel 5 = .ok (.iload_n 2, 1) := by decide +kernel
theorem dX4_timeOfChannel_6 : decode cX4_timeOfChannel 6 = .ok (.invokestatic 111, 3) := by decide +kernel
theorem dX4_timeOfChannel_9 : decode cX4_timeOfChannel 9 = .ok (.iaload, 1) := by decide +kernel
theorem dX4_timeOfChannel_10 : decode cX4_timeOfChannel 10 = .ok (.ireturn, 1) := by decide +kernel
theorem dX4_modesOfChannel_0 : decode cX4_modesOfChannel 0 = .ok (.aload_n 0, 1) := by decide +kernel
theorem dX4_modesOfChannel_1 : decode cX4_modesOfChannel 1 = .ok (.getfield 40, 3) := by decide +kernel
theorem dX4_modesOfChannel_4 : decode cX4_modesOfChannel 4 = .ok (.iload_n 1, 1) := by decide +kernel
theorem dX4_modesOfChannel_5 : decode cX4_modesOfChannel 5 = .ok (.iload_n 2, 1) := by decide +kernel
theorem dX4_modesOfChannel_6 : decode cX4_modesOfChannel 6 = .ok (.invokestatic 111, 3) := by decide +kernel
theorem dX4_modesOfChannel_9 : decode cX4_modesOfChannel 9 = .ok (.iaload, 1) := by decide +kernel
theorem dX4_modesOfChannel_10 : decode cX4_modesOfChannel 10 = .ok (.ireturn, 1) := by decide +kernel
theorem dX4_describeChannel_0 : decode cX4_describeChannel 0 = .ok (.iconst 0, 1) := by decide +kernel
theorem dX4_describeChannel_1 : decode cX4_describeChannel 1 = .ok (.istore 5, 2) := by decide +kernel
theorem dX4_describeChannel_3 : decode cX4_describeChannel 3 = .ok (.iload 5, 2) := by decide +kernel
theorem dX4_describeChannel_5 : decode cX4_describeChannel 5 = .ok (.bipush 6, 2) := by decide +kernel
theorem dX4_describeChannel_7 : decode cX4_describeChannel 7 = .ok (.if_icmp .ge 43, 3) := by decide +kernel
theorem dX4_describeChannel_10 : decode cX4_describeChannel 10 = .ok (.iload_n 1, 1) := by decide +kernel
theorem dX4_describeChannel_11 : decode cX4_describeChannel 11 = .ok (.iload 5, 2) := by decide +kernel
theorem dX4_describeChannel_13 : decode cX4_describeChannel 13 = .ok (.invokestatic 59, 3) := by decide +kernel
theorem dX4_describeChannel_16 : decode cX4_describeChannel 16 = .ok (.ifCond .eq 28, 3) := by decide +kernel
theorem dX4_describeChannel_19 : decode cX4_describeChannel 19 = .ok (.aload_n 0, 1) := by decide +kernel
theorem dX4_describeChannel_20 : decode cX4_describeChannel 20 = .ok (.getfield 37, 3) := by decide +kernel
theorem dX4_describeChannel_23 : decode cX4_describeChannel 23 = .ok (.iload 5, 2) := by decide +kernel
theorem dX4_describeChannel_25 : decode cX4_describeChannel 25 = .ok (.iload_n 2, 1) := by decide +kernel
theorem dX4_describeChannel_26 : decode cX4_describeChannel 26 = .ok (.invokestatic 111, 3) := by decide +kernel
theorem dX4_describeChannel_29 : decode cX4_describeChannel 29 = .ok (.iload_n 3, 1) := by decide +kernel
theorem dX4_describeChannel_30 : decode cX4_describeChannel 30 = .ok (.iastore, 1) := by decide +kernel
theorem dX4_describeChannel_31 : decode cX4_describeChannel 31 = .ok (.aload_n 0, 1) := by decide +kernel
theorem dX4_describeChannel_32 : decode cX4_describeChannel 32 = .ok (.getfield 40, 3) := by decide +kernel
theorem dX4_describeChannel_35 : decode cX4_describeChannel 35 = .ok (.iload 5, 2) := by decide +kernel
theorem dX4_describeChannel_37 : decode cX4_describeChannel 37 = .ok (.iload_n 2, 1) := by decide +kernel
theorem dX4_describeChannel_38 : decode cX4_describeChannel 38 = .ok (.invokestatic 111, 3) := by decide +kernel
theorem dX4_describeChannel_41 : decode cX4_describeChannel 41 = .ok (.iload 4, 2) := by decide +kernel
theorem dX4_describeChannel_43 : decode cX4_describeChannel 43 = .ok (.iastore, 1) := by decide +kernel
theorem dX4_describeChannel_44 : decode cX4_describeChannel 44 = .ok (.iinc 5 1, 3) := by decide +kernel
theorem dX4_describeChannel_47 : decode cX4_describeChannel 47 = .ok (.goto (-44), 3) := by decide +kernel
theorem dX4_describeChannel_50 : decode cX4_describeChannel 50 = .ok (.return_, 1) := by decide +kernel
theorem dX4_countMessages_0 : decode cX4_countMessages 0 = .ok (.aload_n 0, 1) := by decide +kernel
theorem dX4_countMessages_1 : decode cX4_countMessages 1 = .ok (.iload_n 1, 1) := by decide +kernel
theorem dX4_countMessages_2 : decode cX4_countMessages 2 = .ok (.invokevirtual 71, 3) := by decide +kernel
theorem dX4_countMessages_5 : decode cX4_countMessages 5 = .ok (.istore_n 2, 1) := by decide +kernel
theorem dX4_countMessages_6 : decode cX4_countMessages 6 = .ok (.iload_n 2, 1) := by decide +kernel
theorem dX4_countMessages_7 : decode cX4_countMessages 7 = .ok (.invokestatic 121, 3) := by decide +kernel
theorem dX4_countMessages_10 : decode cX4_countMessages 10 = .ok (.aload_n 0, 1) := by decide +kernel
theorem dX4_countMessages_11 : decode cX4_countMessages 11 = .ok (.iload_n 2, 1) := by decide +kernel
theorem dX4_countMessages_12 : decode cX4_countMessages 12 = .ok (.invokevirtual 126, 3) := by decide +kernel
theorem dX4_countMessages_15 : decode cX4_countMessages 15 = .ok (.iadd, 1) := by decide +kernel
theorem dX4_countMessages_16 : decode cX4_countMessages 16 = .ok (.istore_n 3, 1) := by decide +kernel
theorem dX4_countMessages_17 : decode cX4_countMessages 17 = .ok (.iconst 0, 1) := by decide +kernel
theorem dX4_countMessages_18 : decode cX4_countMessages 18 = .ok (.istore 4, 2) := by decide +kernel
theorem dX4_countMessages_20 : decode cX4_countMessages 20 = .ok (.iload 4, 2) := by decide +kernel
theorem dX4_countMessages_22 : decode cX4_countMessages 22 = .ok (.iconst 4, 1) := by decide +kernel
theorem dX4_countMessages_23 : decode cX4_countMessages 23 = .ok (.if_icmp .ge 42, 3) := by decide +kernel
theorem dX4_countMessages_26 : decode cX4_countMessages 26 = .ok (.aload_n 0, 1) := by decide +kernel
theorem dX4_countMessages_27 : decode cX4_countMessages 27 = .ok (.iload_n 2, 1) := by decide +kernel
theorem dX4_countMessages_28 : decode cX4_countMessages 28 = .ok (.iload 4, 2) := by decide +kernel
theorem dX4_countMessages_30 : decode cX4_countMessages 30 = .ok (.invokevirtual 118, 3) := by decide +kernel
theorem dX4_countMessages_33 : decode cX4_countMessages 33 = .ok (.invokestatic 121, 3) := by decide +kernel
theorem dX4_countMessages_36 : decode cX4_countMessages 36 = .ok (.istore 5, 2) := by decide +kernel
theorem dX4_countMessages_38 : decode cX4_countMessages 38 = .ok (.iload 5, 2) := by decide +kernel
theorem dX4_countMessages_40 : decode cX4_countMessages 40 = .ok (.ifCond .le 19, 3) := by decide +kernel
theorem dX4_countMessages_43 : decode cX4_countMessages 43 = .ok (.iload_n 3, 1) := by decide +kernel
theorem dX4_countMessages_44 : decode cX4_countMessages 44 = .ok (.iload 5, 2) := by decide +kernel
theorem dX4_countMessages_46 : decode cX4_countMessages 46 = .ok (.aload_n 0, 1) := by decide +kernel
theorem dX4_countMessages_47 : decode cX4_countMessages 47 = .ok (.iload_n 1, 1) := by decide +kernel
theorem dX4_countMessages_48 : decode cX4_countMessages 48 = .ok (.iload 4, 2) := by decide +kernel
theorem dX4_countMessages_50 : decode cX4_countMessages 50 = .ok (.invokevirtual 129, 3) := by decide +kernel
theorem dX4_countMessages_53 : decode cX4_countMessages 53 = .ok (.invokestatic 121, 3) := by decide +kernel
theorem dX4_countMessages_56 : decode cX4_countMessages 56 = .ok (.iadd, 1) := by decide +kernel
theorem dX4_countMessages_57 : decode cX4_countMessages 57 = .ok (.iadd, 1) := by decide +kernel
theorem dX4_countMessages_58 : decode cX4_countMessages 58 = .ok (.istore_n 3, 1) := by decide +kernel
theorem dX4_countMessages_59 : decode cX4_countMessages 59 = .ok (.iinc 4 1, 3) := by decide +kernel
theorem dX4_countMessages_62 : decode cX4_countMessages 62 = .ok (.goto (-42), 3) := by decide +kernel
theorem dX4_countMessages_65 : decode cX4_countMessages 65 = .ok (.iload_n 3, 1) := by decide +kernel
theorem dX4_countMessages_66 : decode cX4_countMessages 66 = .ok (.ireturn, 1) := by decide +kernel
end
section
theorem dX5_init_0 : decode cX5_init 0 = .ok (.aload_n 0, 1) := by decide +kernel
theorem dX5_init_1 : decode cX5_init 1 = .ok (.invokespecial 3, 3) := by decide +kernel
theorem dX5_init_4 : decode cX5_init 4 = .ok (.aload_n 0, 1) := by decide +kernel
theorem dX5_init_5 : decode cX5_init 5 = .ok (.new 9, 3) := by decide +kernel
theorem dX5_init_8 : decode cX5_init 8 = .ok (.dup, 1) := by decide +kernel
theorem dX5_init_9 : decode cX5_init 9 = .ok (.invokespecial 11, 3) := by decide +kernel
theorem dX5_init_12 : decode cX5_init 12 = .ok (.putfield 12, 3) := by decide +kernel
theorem dX5_init_15 : decode cX5_init 15 = .ok (.aload_n 0, 1) := by decide +kernel
theorem dX5_init_16 : decode cX5_init 16 = .ok (.new 16, 3) := by decide +kernel
theorem dX5_init_19 : decode cX5_init 19 = .ok (.dup, 1) := by decide +kernel
theorem dX5_init_20 : decode cX5_init 20 = .ok (.invokespecial 18, 3) := by decide +kernel
theorem dX5_init_23 : decode cX5_init 23 = .ok (.putfield 19, 3) := by decide +kernel
theorem dX5_init_26 : decode cX5_init 26 = .ok (.aload_n 0, 1) := by decide +kernel
theorem dX5_init_27 : decode cX5_init 27 = .ok (.new 23, 3) := by decide +kernel
theorem dX5_init_30 : decode cX5_init 30 = .ok (.dup, 1) := by decide +kernel
theorem dX5_init_31 : decode cX5_init 31 = .ok (.invokespecial 25, 3) := by decide +kernel
theorem dX5_init_34 : decode cX5_init 34 = .ok (.putfield 26, 3) := by decide +kernel
theorem dX5_init_37 : decode cX5_init 37 = .ok (.aload_n 0, 1) := by decide +kernel
theorem dX5_init_38 : decode cX5_init 38 = .ok (.new 30, 3) := by decide +kernel
theorem dX5_init_41 : decode cX5_init 41 = .ok (.dup, 1) := by decide +kernel
theorem dX5_init_42 : decode cX5_init 42 = .ok (.invokespecial 32, 3) := by decide +kernel
theorem dX5_init_45 : decode cX5_init 45 = .ok (.putfield 33, 3) := by decide +kernel
theorem dX5_init_48 : decode cX5_init 48 = .ok (.return_, 1) := by decide +kernel
theorem dX5_createServers_0 : decode cX5_createServers 0 = .ok (.iload_n 1, 1) := by decide +kernel
theorem dX5_createServers_1 : decode cX5_createServers 1 = .ok (.iconst 1, 1) := by decide +kernel
theorem dX5_createServers_2 : decode cX5_createServers 2 = .ok (.if_icmp .lt 9, 3) := by decide +kernel
theorem dX5_createServers_5 : decode cX5_createServers 5 = .ok (.iload_n 1, 1) := by decide +kernel
theorem dX5_createServers_6 : decode cX5_createServers 6 = .ok (.bipush 6, 2) := by decide +kernel
theorem dX5_createServers_8 : decode cX5_createServers 8 = .ok (.if_icmp .le 5, 3) := by decide +kernel
theorem dX5_createServers_11 : decode cX5_createServers 11 = .ok (.iconst (-1), 1) := by decide +kernel
theorem dX5_createServers_12 : decode cX5_createServers 12 = .ok (.ireturn, 1) := by decide +kernel
theorem dX5_createServers_13 : decode cX5_createServers 13 = .ok (.aload_n 0, 1) := by decide +kernel
theorem dX5_createServers_14 : decode cX5_createServers 14 = .ok (.getfield 12, 3) := by decide +kernel
theorem dX5_createServers_17 : decode cX5_createServers 17 = .ok (.bipush 63, 2) := by decide +kernel
theorem dX5_createServers_19 : decode cX5_createServers 19 = .ok (.invokevirtual 37, 3) := by decide +kernel
theorem dX5_createServers_22 : decode cX5_createServers 22 = .ok (.istore_n 2, 1) := by decide +kernel
theorem dX5_createServers_23 : decode cX5_createServers 23 = .ok (.aload_n 0, 1) := by decide +kernel
theorem dX5_createServers_24 : decode cX5_createServers 24 = .ok (.getfield 19, 3) := by decide +kernel
theorem dX5_createServers_27 : decode cX5_createServers 27 = .ok (.aload_n 0, 1) := by decide +kernel
theorem dX5_createServers_28 : decode cX5_createServers 28 = .ok (.getfield 12, 3) := by decide +kernel
theorem dX5_createServers_31 : decode cX5_createServers 31 = .ok (.invokevirtual 41, 3) := by decide +kernel
theorem dX5_createServers_34 : decode cX5_createServers 34 = .ok (.aload_n 0, 1) := by decide +kernel
theorem dX5_createServers_35 : decode cX5_createServers 35 = .ok (.getfield 12, 3) := by decide +kernel
theorem dX5_createServers_38 : decode cX5_createServers 38 = .ok (.iload_n 1, 1) := by decide +kernel
theorem dX5_createServers_39 : decode cX5_createServers 39 = .ok (.invokevirtual 45, 3) := by decide +kernel
theorem dX5_createServers_42 : decode cX5_createServers 42 = .ok (.iload_n 2, 1) := by decide +kernel
theorem dX5_createServers_43 : decode cX5_createServers 43 = .ok (.ireturn, 1) := by decide +kernel
theorem dX5_connect_0 : decode cX5_connect 0 = .ok (.aload_n 0, 1) := by decide +kernel
theorem dX5_connect_1 : decode cX5_connect 1 = .ok (.getfield 12, 3) := by decide +kernel
theorem dX5_connect_4 : decode cX5_connect 4 = .ok (.iload_n 1, 1) := by decide +kernel
theorem dX5_connect_5 : decode cX5_connect 5 = .ok (.iload_n 2, 1) := by decide +kernel
theorem dX5_connect_6 : decode cX5_connect 6 = .ok (.invokevirtual 49, 3) := by decide +kernel
theorem dX5_connect_9 : decode cX5_connect 9 = .ok (.ifCond .eq 8, 3) := by decide +kernel
theorem dX5_connect_12 : decode cX5_connect 12 = .ok (.iload_n 1, 1) := by decide +kernel
theorem dX5_connect_13 : decode cX5_connect 13 = .ok (.iload_n 2, 1) := by decide +kernel
theorem dX5_connect_14 : decode cX5_connect 14 = .ok (.if_icmp .ne 5, 3) := by decide +kernel
theorem dX5_connect_17 : decode cX5_connect 17 = .ok (.iconst (-1), 1) := by decide +kernel
theorem dX5_connect_18 : decode cX5_connect 18 = .ok (.ireturn, 1) := by decide +kernel
theorem dX5_connect_19 : decode cX5_connect 19 = .ok (.aload_n 0, 1) := by decide +kernel
theorem dX5_connect_20 : decode cX5_connect 20 = .ok (.getfield 12, 3) := by decide +kernel
theorem dX5_connect_23 : decode cX5_connect 23 = .ok (.iload_n 1, 1) := by decide +kernel
theorem dX5_connect_24 : decode cX5_connect 24 = .ok (.iload_n 2, 1) := by decide +kernel
theorem dX5_connect_25 : decode cX5_connect 25 = .ok (.invokevirtual 53, 3) := by decide +kernel
theorem dX5_connect_28 : decode cX5_connect 28 = .ok (.ifCond .eq 6, 3) := by decide +kernel
theorem dX5_connect_31 : decode cX5_connect 31 = .ok (.bipush (-2), 2) := by decide +kernel
theorem dX5_connect_33 : decode cX5_connect 33 = .ok (.ireturn, 1) := by decide +kernel
theorem dX5_connect_34 : decode cX5_connect 34 = .ok (.aload_n 0, 1) := by decide +kernel
theorem dX5_connect_35 : decode cX5_connect 35 = .ok (.getfield 19, 3) := by decide +kernel
theorem dX5_connect_38 : decode cX5_connect 38 = .ok (.aload_n 0, 1) := by decide +kernel
theorem dX5_connect_39 : decode cX5_connect 39 = .ok (.getfield 12, 3) := by decide +kernel
theorem dX5_connect_42 : decode cX5_connect 42 = .ok (.invokevirtual 41, 3) := by decide +kernel
theorem dX5_connect_45 : decode cX5_connect 45 = .ok (.aload_n 0, 1) := by decide +kernel
theorem dX5_connect_46 : decode cX5_connect 46 = .ok (.getfield 12, 3) := by decide +kernel
theorem dX5_connect_49 : decode cX5_connect 49 = .ok (.iload_n 1, 1) := by decide +kernel
theorem dX5_connect_50 : decode cX5_connect 50 = .ok (.iload_n 2, 1) := by decide +kernel
theorem dX5_connect_51 : decode cX5_connect 51 = .ok (.invokestatic 56, 3) := by decide +kernel
theorem dX5_connect_54 : decode cX5_connect 54 = .ok (.istore_n 3, 1) := by decide +kernel
theorem dX5_connect_55 : decode cX5_connect 55 = .ok (.aload_n 0, 1) := by decide +kernel
theorem dX5_connect_56 : decode cX5_connect 56 = .ok (.getfield 12, 3) := by decide +kernel
theorem dX5_connect_59 : decode cX5_connect 59 = .ok (.iload_n 1, 1) := by decide +kernel
theorem dX5_connect_60 : decode cX5_connect 60 = .ok (.iload_n 2, 1) := by decide +kernel
theorem dX5_connect_61 : decode cX5_connect 61 = .ok (.invokestatic 62, 3) := by decide +kernel
theorem dX5_connect_64 : decode cX5_connect 64 = .ok (.aload_n 0, 1) := by decide +kernel
theorem dX5_connect_65 : decode cX5_connect 65 = .ok (.getfield 12, 3) := by decide +kernel
theorem dX5_connect_68 : decode cX5_connect 68 = .ok (.iload_n 1, 1) := by decide +kernel
theorem dX5_connect_69 : decode cX5_connect 69 = .ok (.iload_n 2, 1) := by decide +kernel
theorem dX5_connect_70 : decode cX5_connect 70 = .ok (.invokestatic 66, 3) := by decide +kernel
theorem dX5_connect_73 : decode cX5_connect 73 = .ok (.aload_n 0, 1) := by decide +kernel
theorem dX5_connect_74 : decode cX5_connect 74 = .ok (.getfield 12, 3) := by decide +kernel
theorem dX5_connect_77 : decode cX5_connect 77 = .ok (.iload_n 1, 1) := by decide +kernel
theorem dX5_connect_78 : decode cX5_connect 78 = .ok (.iload_n 2, 1) := by decide +kernel
theorem dX5_connect_79 : decode cX5_connect 79 = .ok (.invokevirtual 69, 3) := by decide +kernel
theorem dX5_connect_82 : decode cX5_connect 82 = .ok (.iload_n 3, 1) := by decide +kernel
theorem dX5_connect_83 : decode cX5_connect 83 = .ok (.ireturn, 1) := by decide +kernel
theorem dX5_disconnect_0 : decode cX5_disconnect 0 = .ok (.aload_n 0, 1) := by decide +kernel
theorem dX5_disconnect_1 : decode cX5_disconnect 1 = .ok (.getfield 12, 3) := by decide +kernel
theorem dX5_disconnect_4 : decode cX5_disconnect 4 = .ok (.iload_n 1, 1) := by decide +kernel
theorem dX5_disconnect_5 : decode cX5_disconnect 5 = .ok (.iload_n 2, 1) := by decide +kernel
theorem dX5_disconnect_6 : decode cX5_disconnect 6 = .ok (.invokevirtual 49, 3) := by decide +kernel
theorem dX5_disconnect_9 : decode cX5_disconnect 9 = .ok (.ifCond .eq 8, 3) := by decide +kernel
theorem dX5_disconnect_12 : decode cX5_disconnect 12 = .ok (.iload_n 1, 1) := by decide +kernel
theorem dX5_disconnect_13 : decode cX5_disconnect 13 = .ok (.iload_n 2, 1) := by decide +kernel
theorem dX5_disconnect_14 : decode cX5_disconnect 14 = .ok (.if_icmp .ne 5, 3) := by decide +kernel
theorem dX5_disconnect_17 : decode cX5_disconnect 17 = .ok (.iconst (-1), 1) := by decide +kernel
theorem dX5_disconnect_18 : decode cX5_disconnect 18 = .ok (.ireturn, 1) := by decide +kernel
theorem dX5_disconnect_19 : decode cX5_disconnect 19 = .ok (.aload_n 0, 1) := by decide +kernel
theorem dX5_disconnect_20 : decode cX5_disconnect 20 = .ok (.getfield 12, 3) := by decide +kernel
theorem dX5_disconnect_23 : decode cX5_disconnect 23 = .ok (.iload_n 1, 1) := by decide +kernel
theorem dX5_disconnect_24 : decode cX5_disconnect 24 = .ok (.iload_n 2, 1) := by decide +kernel
theorem dX5_disconnect_25 : decode cX5_disconnect 25 = .ok (.invokevirtual 73, 3) := by decide +kernel
theorem dX5_disconnect_28 : decode cX5_disconnect 28 = .ok (.ifCond .ne 6, 3) := by decide +kernel
theorem dX5_disconnect_31 : decode cX5_disconnect 31 = .ok (.bipush (-2), 2) := by decide +kernel
theorem dX5_disconnect_33 : decode cX5_disconnect 33 = .ok (.ireturn, 1) := by decide +kernel
theorem dX5_disconnect_34 : decode cX5_disconnect 34 = .ok (.aload_n 0, 1) := by decide +kernel
theorem dX5_disconnect_35 : decode cX5_disconnect 35 = .ok (.getfield 19, 3) := by decide +kernel
theorem dX5_disconnect_38 : decode cX5_disconnect 38 = .ok (.aload_n 0, 1) := by decide +kernel
theorem dX5_disconnect_39 : decode cX5_disconnect 39 = .ok (.getfield 12, 3) := by decide +kernel
theorem dX5_disconnect_42 : decode cX5_disconnect 42 = .ok (.invokevirtual 41, 3) := by decide +kernel
theorem dX5_disconnect_45 : decode cX5_disconnect 45 = .ok (.aload_n 0, 1) := by decide +kernel
theorem dX5_disconnect_46 : decode cX5_disconnect 46 = .ok (.getfield 12, 3) := by decide +kernel
theorem dX5_disconnect_49 : decode cX5_disconnect 49 = .ok (.iload_n 1, 1) := by decide +kernel
theorem dX5_disconnect_50 : decode cX5_disconnect 50 = .ok (.iload_n 2, 1) := by decide +kernel
theorem dX5_disconnect_51 : decode cX5_disconnect 51 = .ok (.invokevirtual 76, 3) := by decide +kernel
theorem dX5_disconnect_54 : decode cX5_disconnect 54 = .ok (.aload_n 0, 1) := by decide +kernel
theorem dX5_disconnect_55 : decode cX5_disconnect 55 = .ok (.getfield 12, 3) := by decide +kernel
theorem dX5_disconnect_58 : decode cX5_disconnect 58 = .ok (.iload_n 1, 1) := by decide +kernel
theorem dX5_disconnect_59 : decode cX5_disconnect 59 = .ok (.invokevirtual 79, 3) := by decide +kernel
theorem dX5_disconnect_62 : decode cX5_disconnect 62 = .ok (.invokestatic 82, 3) := by decide +kernel
theorem dX5_disconnect_65 : decode cX5_disconnect 65 = .ok (.ireturn, 1) := by decide +kernel
theorem dX5_advance_0 : decode cX5_advance 0 = .ok (.iload_n 1, 1) := by decide +kernel
theorem dX5_advance_1 : decode cX5_advance 1 = .ok (.iconst 1, 1) := by decide +kernel
theorem dX5_advance_2 : decode cX5_advance 2 = .ok (.if_icmp .lt 10, 3) := by decide +kernel
theorem dX5_advance_5 : decode cX5_advance 5 = .ok (.iload_n 1, 1) := by decide +kernel
theorem dX5_advance_6 : decode cX5_advance 6 = .ok (.sipush 999, 3) := by decide +kernel
theorem dX5_advance_9 : decode cX5_advance 9 = .ok (.if_icmp .le 5, 3) := by decide +kernel
theorem dX5_advance_12 : decode cX5_advance 12 = .ok (.iconst (-1), 1) := by decide +kernel
theorem dX5_advance_13 : decode cX5_advance 13 = .ok (.ireturn, 1) := by decide +kernel
theorem dX5_advance_14 : decode cX5_advance 14 = .ok (.aload_n 0, 1) := by decide +kernel
theorem dX5_advance_15 : decode cX5_advance 15 = .ok (.getfield 12, 3) := by decide +kernel
theorem dX5_advance_18 : decode cX5_advance 18 = .ok (.getfield 87, 3) := by decide +kernel
theorem dX5_advance_21 : decode cX5_advance 21 = .ok (.iload_n 1, 1) := by decide +kernel
theorem dX5_advance_22 : decode cX5_advance 22 = .ok (.iadd, 1) := by decide +kernel
theorem dX5_advance_23 : decode cX5_advance 23 = .ok (.sipush 9999, 3) := by decide +kernel
theorem dX5_advance_26 : decode cX5_advance 26 = .ok (.if_icmp .le 6, 3) := by decide +kernel
theorem dX5_advance_29 : decode cX5_advance 29 = .ok (.bipush (-3), 2) := by decide +kernel
theorem dX5_advance_31 : decode cX5_advance 31 = .ok (.ireturn, 1) := by decide +kernel
theorem dX5_advance_32 : decode cX5_advance 32 = .ok (.aload_n 0, 1) := by decide +kernel
theorem dX5_advance_33 : decode cX5_advance 33 = .ok (.getfield 19, 3) := by decide +kernel
theorem dX5_advance_36 : decode cX5_advance 36 = .ok (.aload_n 0, 1) := by decide +kernel
theorem dX5_advance_37 : decode cX5_advance 37 = .ok (.getfield 12, 3) := by decide +kernel
theorem dX5_advance_40 : decode cX5_advance 40 = .ok (.invokevirtual 41, 3) := by decide +kernel
theorem dX5_advance_43 : decode cX5_advance 43 = .ok (.aload_n 0, 1) := by decide +kernel
theorem dX5_advance_44 : decode cX5_advance 44 = .ok (.getfield 12, 3) := by decide +kernel
theorem dX5_advance_47 : decode cX5_advance 47 = .ok (.dup, 1) := by decide +kernel
theorem dX5_advance_48 : decode cX5_advance 48 = .ok (.getfield 87, 3) := by decide +kernel
theorem dX5_advance_51 : decode cX5_advance 51 = .ok (.iload_n 1, 1) := by decide +kernel
theorem dX5_advance_52 : decode cX5_advance 52 = .ok (.iadd, 1) := by decide +kernel
theorem dX5_advance_53 : decode cX5_advance 53 = .ok (.putfield 87, 3) := by decide +kernel
theorem dX5_advance_56 : decode cX5_advance 56 = .ok (.aload_n 0, 1) := by decide +kernel
theorem dX5_advance_57 : decode cX5_advance 57 = .ok (.getfield 12, 3) := by decide +kernel
theorem dX5_advance_60 : decode cX5_advance 60 = .ok (.getfield 87, 3) := by decide +kernel
theorem dX5_advance_63 : decode cX5_advance 63 = .ok (.ireturn, 1) := by decide +kernel
theorem dX5_time_0 : decode cX5_time 0 = .ok (.aload_n 0, 1) := by decide +kernel
theorem dX5_time_1 : decode cX5_time 1 = .ok (.getfield 12, 3) := by decide +kernel
theorem dX5_time_4 : decode cX5_time 4 = .ok (.getfield 87, 3) := by decide +kernel
theorem dX5_time_7 : decode cX5_time 7 = .ok (.ireturn, 1) := by decide +kernel
theorem dX5_hops_0 : decode cX5_hops 0 = .ok (.aload_n 0, 1) := by decide +kernel
theorem dX5_hops_1 : decode cX5_hops 1 = .ok (.getfield 12, 3) := by decide +kernel
theorem dX5_hops_4 : decode cX5_hops 4 = .ok (.iload_n 1, 1) := by decide +kernel
theorem dX5_hops_5 : decode cX5_hops 5 = .ok (.iload_n 2, 1) := by decide +kernel
theorem dX5_hops_6 : decode cX5_hops 6 = .ok (.invokevirtual 49, 3) := by decide +kernel
theorem dX5_hops_9 : decode cX5_hops 9 = .ok (.ifCond .ne 5, 3) := by decide +kernel
theorem dX5_hops_12 : decode cX5_hops 12 = .ok (.iconst (-1), 1) := by decide +kernel
theorem dX5_hops_13 : decode cX5_hops 13 = .ok (.ireturn, 1) := by decide +kernel
theorem dX5_hops_14 : decode cX5_hops 14 = .ok (.iconst 1, 1) := by decide +kernel
theorem dX5_hops_15 : decode cX5_hops 15 = .ok (.iload_n 1, 1) := by decide +kernel
theorem dX5_hops_16 : decode cX5_hops 16 = .ok (.ishl, 1) := by decide +kernel
theorem dX5_hops_17 : decode cX5_hops 17 = .ok (.istore_n 3, 1) := by decide +kernel
theorem dX5_hops_18 : decode cX5_hops 18 = .ok (.iconst 0, 1) := by decide +kernel
theorem dX5_hops_19 : decode cX5_hops 19 = .ok (.istore 4, 2) := by decide +kernel
theorem dX5_hops_21 : decode cX5_hops 21 = .ok (.iload 4, 2) := by decide +kernel
theorem dX5_hops_23 : decode cX5_hops 23 = .ok (.bipush 6, 2) := by decide +kernel
theorem dX5_hops_25 : decode cX5_hops 25 = .ok (.if_icmp .ge 29, 3) := by decide +kernel
theorem dX5_hops_28 : decode cX5_hops 28 = .ok (.iload_n 3, 1) := by decide +kernel
theorem dX5_hops_29 : decode cX5_hops 29 = .ok (.iload_n 2, 1) := by decide +kernel
theorem dX5_hops_30 : decode cX5_hops 30 = .ok (.invokestatic 91, 3) := by decide +kernel
theorem dX5_hops_33 : decode cX5_hops 33 = .ok (.ifCond .eq 6, 3) := by decide +kernel
theorem dX5_hops_36 : decode cX5_hops 36 = .ok (.iload 4, 2) := by decide +kernel
theorem dX5_hops_38 : decode cX5_hops 38 = .ok (.ireturn, 1) := by decide +kernel
theorem dX5_hops_39 : decode cX5_hops 39 = .ok (.aload_n 0, 1) := by decide +kernel
theorem dX5_hops_40 : decode cX5_hops 40 = .ok (.getfield 12, 3) := by decide +kernel
theorem dX5_hops_43 : decode cX5_hops 43 = .ok (.iload_n 3, 1) := by decide +kernel
theorem dX5_hops_44 : decode cX5_hops 44 = .ok (.invokevirtual 94, 3) := by decide +kernel
theorem dX5_hops_47 : decode cX5_hops 47 = .ok (.istore_n 3, 1) := by decide +kernel
theorem dX5_hops_48 : decode cX5_hops 48 = .ok (.iinc 4 1, 3) := by decide +kernel
theorem dX5_hops_51 : decode cX5_hops 51 = .ok (.goto (-30), 3) := by decide +kernel
theorem dX5_hops_54 : decode cX5_hops 54 = .ok (.bipush (-9), 2) := by decide +kernel
theorem dX5_hops_56 : decode cX5_hops 56 = .ok (.ireturn, 1) := by decide +kernel
theorem dX5_signOn_0 : decode cX5_signOn 0 = .ok (.aload_n 0, 1) := by decide +kernel
theorem dX5_signOn_1 : decode cX5_signOn 1 = .ok (.getfield 12, 3) := by decide +kernel
theorem dX5_signOn_4 : decode cX5_signOn 4 = .ok (.iload_n 1, 1) := by decide +kernel
theorem dX5_signOn_5 : decode cX5_signOn 5 = .ok (.invokevirtual 97, 3) := by decide +kernel
theorem dX5_signOn_8 : decode cX5_signOn 8 = .ok (.ifCond .eq 10, 3) := by decide +kernel
theorem dX5_signOn_11 : decode cX5_signOn 11 = .ok (.iload_n 2, 1) := by decide +kernel
theorem dX5_signOn_12 : decode cX5_signOn 12 = .ok (.invokestatic 101, 3) := by decide +kernel
theorem dX5_signOn_15 : decode cX5_signOn 15 = .ok (.ifCond .ne 5, 3) := by decide +kernel
theorem dX5_signOn_18 : decode cX5_signOn 18 = .ok (.iconst (-1), 1) := by decide +kernel
theorem dX5_signOn_19 : decode cX5_signOn 19 = .ok (.ireturn, 1) := by decide +kernel
theorem dX5_signOn_20 : decode cX5_signOn 20 = .ok (.aload_n 0, 1) := by decide +kernel
theorem dX5_signOn_21 : decode cX5_signOn 21 = .ok (.getfield 12, 3) := by decide +kernel
theorem dX5_signOn_24 : decode cX5_signOn 24 = .ok (.iload_n 1, 1) := by decide +kernel
theorem dX5_signOn_25 : decode cX5_signOn 25 = .ok (.invokevirtual 79, 3) := by decide +kernel
theorem dX5_signOn_28 : decode cX5_signOn 28 = .ok (.istore_n 3, 1) := by decide +kernel
theorem dX5_signOn_29 : decode cX5_signOn 29 = .ok (.aload_n 0, 1) := by decide +kernel
theorem dX5_signOn_30 : decode cX5_signOn 30 = .ok (.getfield 12, 3) := by decide +kernel
theorem dX5_signOn_33 : decode cX5_signOn 33 = .ok (.iload_n 3, 1) := by decide +kernel
theorem dX5_signOn_34 : decode cX5_signOn 34 = .ok (.iload_n 2, 1) := by decide +kernel
theorem dX5_signOn_35 : decode cX5_signOn 35 = .ok (.invokevirtual 104, 3) := by decide +kernel
theorem dX5_signOn_38 : decode cX5_signOn 38 = .ok (.iconst (-1), 1) := by decide +kernel
theorem dX5_signOn_39 : decode cX5_signOn 39 = .ok (.if_icmp .eq 6, 3) := by decide +kernel
theorem dX5_signOn_42 : decode cX5_signOn 42 = .ok (.bipush (-2), 2) := by decide +kernel
theorem dX5_signOn_44 : decode cX5_signOn 44 = .ok (.ireturn, 1) := by decide +kernel
theorem dX5_signOn_45 : decode cX5_signOn 45 = .ok (.aload_n 0, 1) := by decide +kernel
theorem dX5_signOn_46 : decode cX5_signOn 46 = .ok (.getfield 19, 3) := by decide +kernel
theorem dX5_signOn_49 : decode cX5_signOn 49 = .ok (.aload_n 0, 1) := by decide +kernel
theorem dX5_signOn_50 : decode cX5_signOn 50 = .ok (.getfield 12, 3) := by decide +kernel
theorem dX5_signOn_53 : decode cX5_signOn 53 = .ok (.invokevirtual 41, 3) := by decide +kernel
theorem dX5_signOn_56 : decode cX5_signOn 56 = .ok (.aload_n 0, 1) := by decide +kernel
theorem dX5_signOn_57 : decode cX5_signOn 57 = .ok (.getfield 12, 3) := by decide +kernel
theorem dX5_signOn_60 : decode cX5_signOn 60 = .ok (.iload_n 1, 1) := by decide +kernel
theorem dX5_signOn_61 : decode cX5_signOn 61 = .ok (.iload_n 2, 1) := by decide +kernel
theorem dX5_signOn_62 : decode cX5_signOn 62 = .ok (.invokevirtual 108, 3) := by decide +kernel
theorem dX5_signOn_65 : decode cX5_signOn 65 = .ok (.aload_n 0, 1) := by decide +kernel
theorem dX5_signOn_66 : decode cX5_signOn 66 = .ok (.getfield 12, 3) := by decide +kernel
theorem dX5_signOn_69 : decode cX5_signOn 69 = .ok (.iload_n 3, 1) := by decide +kernel
theorem dX5_signOn_70 : decode cX5_signOn 70 = .ok (.invokevirtual 37, 3) := by decide +kernel
theorem dX5_signOn_73 : decode cX5_signOn 73 = .ok (.ireturn, 1) := by decide +kernel
theorem dX5_signOff_0 : decode cX5_signOff 0 = .ok (.aload_n 0, 1) := by decide +kernel
theorem dX5_signOff_1 : decode cX5_signOff 1 = .ok (.getfield 12, 3) := by decide +kernel
theorem dX5_signOff_4 : decode cX5_signOff 4 = .ok (.iload_n 1, 1) := by decide +kernel
theorem dX5_signOff_5 : decode cX5_signOff 5 = .ok (.invokevirtual 97, 3) := by decide +kernel
theorem dX5_signOff_8 : decode cX5_signOff 8 = .ok (.ifCond .eq 10, 3) := by decide +kernel
theorem dX5_signOff_11 : decode cX5_signOff 11 = .ok (.iload_n 2, 1) := by decide +kernel
theorem dX5_signOff_12 : decode cX5_signOff 12 = .ok (.invokestatic 101, 3) := by decide +kernel
theorem dX5_signOff_15 : decode cX5_signOff 15 = .ok (.ifCond .ne 5, 3) := by decide +kernel
theorem dX5_signOff_18 : decode cX5_signOff 18 = .ok (.iconst (-1), 1) := by decide +kernel
theorem dX5_signOff_19 : decode cX5_signOff 19 = .ok (.ireturn, 1) := by decide +kernel
theorem dX5_signOff_20 : decode cX5_signOff 20 = .ok (.aload_n 0, 1) := by decide +kernel
theorem dX5_signOff_21 : decode cX5_signOff 21 = .ok (.getfield 12, 3) := by decide +kernel
theorem dX5_signOff_24 : decode cX5_signOff 24 = .ok (.iload_n 1, 1) := by decide +kernel
theorem dX5_signOff_25 : decode cX5_signOff 25 = .ok (.iload_n 2, 1) := by decide +kernel
theorem dX5_signOff_26 : decode cX5_signOff 26 = .ok (.invokevirtual 111, 3) := by decide +kernel
theorem dX5_signOff_29 : decode cX5_signOff 29 = .ok (.ifCond .ne 6, 3) := by decide +kernel
theorem dX5_signOff_32 : decode cX5_signOff 32 = .ok (.bipush (-2), 2) := by decide +kernel
theorem dX5_signOff_34 : decode cX5_signOff 34 = .ok (.ireturn, 1) := by decide +kernel
theorem dX5_signOff_35 : decode cX5_signOff 35 = .ok (.aload_n 0, 1) := by decide +kernel
theorem dX5_signOff_36 : decode cX5_signOff 36 = .ok (.getfield 12, 3) := by decide +kernel
theorem dX5_signOff_39 : decode cX5_signOff 39 = .ok (.iload_n 1, 1) := by decide +kernel
theorem dX5_signOff_40 : decode cX5_signOff 40 = .ok (.iload_n 2, 1) := by decide +kernel
theorem dX5_signOff_41 : decode cX5_signOff 41 = .ok (.invokevirtual 114, 3) := by decide +kernel
theorem dX5_signOff_44 : decode cX5_signOff 44 = .ok (.istore_n 3, 1) := by decide +kernel
theorem dX5_signOff_45 : decode cX5_signOff 45 = .ok (.aload_n 0, 1) := by decide +kernel
theorem dX5_signOff_46 : decode cX5_signOff 46 = .ok (.getfield 19, 3) := by decide +kernel
theorem dX5_signOff_49 : decode cX5_signOff 49 = .ok (.aload_n 0, 1) := by decide +kernel
theorem dX5_signOff_50 : decode cX5_signOff 50 = .ok (.getfield 12, 3) := by decide +kernel
theorem dX5_signOff_53 : decode cX5_signOff 53 = .ok (.invokevirtual 41, 3) := by decide +kernel
theorem dX5_signOff_56 : decode cX5_signOff 56 = .ok (.aload_n 0, 1) := by decide +kernel
theorem dX5_signOff_57 : decode cX5_signOff 57 = .ok (.getfield 12, 3) := by decide +kernel
theorem dX5_signOff_60 : decode cX5_signOff 60 = .ok (.iload_n 1, 1) := by decide +kernel
theorem dX5_signOff_61 : decode cX5_signOff 61 = .ok (.iload_n 2, 1) := by decide +kernel
theorem dX5_signOff_62 : decode cX5_signOff 62 = .ok (.invokevirtual 117, 3) := by decide +kernel
theorem dX5_signOff_65 : decode cX5_signOff 65 = .ok (.iload_n 3, 1) := by decide +kernel
theorem dX5_signOff_66 : decode cX5_signOff 66 = .ok (.ireturn, 1) := by decide +kernel
theorem dX5_changeNick_0 : decode cX5_changeNick 0 = .ok (.aload_n 0, 1) := by decide +kernel
theorem dX5_changeNick_1 : decode cX5_changeNick 1 = .ok (.getfield 12, 3) := by decide +kernel
theorem dX5_changeNick_4 : decode cX5_changeNick 4 = .ok (.iload_n 1, 1) := by decide +kernel
theorem dX5_changeNick_5 : decode cX5_changeNick 5 = .ok (.invokevirtual 97, 3) := by decide +kernel
theorem dX5_changeNick_8 : decode cX5_changeNick 8 = .ok (.ifCond .eq 17, 3) := by decide +kernel
theorem dX5_changeNick_11 : decode cX5_changeNick 11 = .ok (.iload_n 2, 1) := by decide +kernel
theorem dX5_changeNick_12 : decode cX5_changeNick 12 = .ok (.invokestatic 101, 3) := by decide +kernel
theorem dX5_changeNick_15 : decode cX5_changeNick 15 = .ok (.ifCond .eq 10, 3) := by decide +kernel
theorem dX5_changeNick_18 : decode cX5_changeNick 18 = .ok (.iload_n 3, 1) := by decide +kernel
theorem dX5_changeNick_19 : decode cX5_changeNick 19 = .ok (.invokestatic 101, 3) := by decide +kernel
theorem dX5_changeNick_22 : decode cX5_changeNick 22 = .ok (.ifCond .ne 5, 3) := by decide +kernel
theorem dX5_changeNick_25 : decode cX5_changeNick 25 = .ok (.iconst (-1), 1) := by decide +kernel
theorem dX5_changeNick_26 : decode cX5_changeNick 26 = .ok (.ireturn, 1) := by decide +kernel
theorem dX5_changeNick_27 : decode cX5_changeNick 27 = .ok (.aload_n 0, 1) := by decide +kernel
theorem dX5_changeNick_28 : decode cX5_changeNick 28 = .ok (.getfield 12, 3) := by decide +kernel
theorem dX5_changeNick_31 : decode cX5_changeNick 31 = .ok (.iload_n 1, 1) := by decide +kernel
theorem dX5_changeNick_32 : decode cX5_changeNick 32 = .ok (.iload_n 2, 1) := by decide +kernel
theorem dX5_changeNick_33 : decode cX5_changeNick 33 = .ok (.invokevirtual 111, 3) := by decide +kernel
theorem dX5_changeNick_36 : decode cX5_changeNick 36 = .ok (.ifCond .eq 23, 3) := by decide +kernel
theorem dX5_changeNick_39 : decode cX5_changeNick 39 = .ok (.aload_n 0, 1) := by decide +kernel
theorem dX5_changeNick_40 : decode cX5_changeNick 40 = .ok (.getfield 12, 3) := by decide +kernel
theorem dX5_changeNick_43 : decode cX5_changeNick 43 = .ok (.aload_n 0, 1) := by decide +kernel
theorem dX5_changeNick_44 : decode cX5_changeNick 44 = .ok (.getfield 12, 3) := by decide +kernel
theorem dX5_changeNick_47 : decode cX5_changeNick 47 = .ok (.iload_n 1, 1) := by decide +kernel
theorem dX5_changeNick_48 : decode cX5_changeNick 48 = .ok (.invokevirtual 79, 3) := by decide +kernel
theorem dX5_changeNick_51 : decode cX5_changeNick 51 = .ok (.iload_n 3, 1) := by decide +kernel
theorem dX5_changeNick_52 : decode cX5_changeNick 52 = .ok (.invokevirtual 104, 3) := by decide +kernel
theorem dX5_changeNick_55 : decode cX5_changeNick 55 = .ok (.iconst (-1), 1) := by decide +kernel
theorem dX5_changeNick_56 : decode cX5_changeNick 56 = .ok (.if_icmp .eq 6, 3) := by decide +kernel
theorem dX5_changeNick_59 : decode cX5_changeNick 59 = .ok (.bipush (-2), 2) := by decide +kernel
theorem dX5_changeNick_61 : decode cX5_changeNick 61 = .ok (.ireturn, 1) := by decide +kernel
theorem dX5_changeNick_62 : decode cX5_changeNick 62 = .ok (.aload_n 0, 1) := by decide +kernel
theorem dX5_changeNick_63 : decode cX5_changeNick 63 = .ok (.getfield 12, 3) := by decide +kernel
theorem dX5_changeNick_66 : decode cX5_changeNick 66 = .ok (.iload_n 1, 1) := by decide +kernel
theorem dX5_changeNick_67 : decode cX5_changeNick 67 = .ok (.iload_n 2, 1) := by decide +kernel
theorem dX5_changeNick_68 : decode cX5_changeNick 68 = .ok (.invokevirtual 120, 3) := by decide +kernel
theorem dX5_changeNick_71 : decode cX5_changeNick 71 = .ok (.istore 4, 2) := by decide +kernel
theorem dX5_changeNick_73 : decode cX5_changeNick 73 = .ok (.aload_n 0, 1) := by decide +kernel
theorem dX5_changeNick_74 : decode cX5_changeNick 74 = .ok (.getfield 19, 3) := by decide +kernel
theorem dX5_changeNick_77 : decode cX5_changeNick 77 = .ok (.aload_n 0, 1) := by decide +kernel
theorem dX5_changeNick_78 : decode cX5_changeNick 78 = .ok (.getfield 12, 3) := by decide +kernel
theorem dX5_changeNick_81 : decode cX5_changeNick 81 = .ok (.invokevirtual 41, 3) := by decide +kernel
theorem dX5_changeNick_84 : decode cX5_changeNick 84 = .ok (.aload_n 0, 1) := by decide +kernel
theorem dX5_changeNick_85 : decode cX5_changeNick 85 = .ok (.getfield 12, 3) := by decide +kernel
theorem dX5_changeNick_88 : decode cX5_changeNick 88 = .ok (.iload_n 1, 1) := by decide +kernel
theorem dX5_changeNick_89 : decode cX5_changeNick 89 = .ok (.iload_n 2, 1) := by decide +kernel
theorem dX5_changeNick_90 : decode cX5_changeNick 90 = .ok (.iload_n 3, 1) := by decide +kernel
theorem dX5_changeNick_91 : decode cX5_changeNick 91 = .ok (.invokevirtual 123, 3) := by decide +kernel
theorem dX5_changeNick_94 : decode cX5_changeNick 94 = .ok (.iload 4, 2) := by decide +kernel
theorem dX5_changeNick_96 : decode cX5_changeNick 96 = .ok (.ireturn, 1) := by decide +kernel
theorem dX5_homeServer_0 : decode cX5_homeServer 0 = .ok (.aload_n 0, 1) := by decide +kernel
theorem dX5_homeServer_1 : decode cX5_homeServer 1 = .ok (.getfield 12, 3) := by decide +kernel
theorem dX5_homeServer_4 : decode cX5_homeServer 4 = .ok (.iload_n 1, 1) := by decide +kernel
theorem dX5_homeServer_5 : decode cX5_homeServer 5 = .ok (.invokevirtual 97, 3) := by decide +kernel
theorem dX5_homeServer_8 : decode cX5_homeServer 8 = .ok (.ifCond .eq 10, 3) := by decide +kernel
theorem dX5_homeServer_11 : decode cX5_homeServer 11 = .ok (.iload_n 2, 1) := by decide +kernel
theorem dX5_homeServer_12 : decode cX5_homeServer 12 = .ok (.invokestatic 101, 3) := by decide +kernel
theorem dX5_homeServer_15 : decode cX5_homeServer 15 = .ok (.ifCond .ne 5, 3) := by decide +kernel
theorem dX5_homeServer_18 : decode cX5_homeServer 18 = .ok (.iconst (-1), 1) := by decide +kernel
theorem dX5_homeServer_19 : decode cX5_homeServer 19 = .ok (.ireturn, 1) := by decide +kernel
theorem dX5_homeServer_20 : decode cX5_homeServer 20 = .ok (.aload_n 0, 1) := by decide +kernel
theorem dX5_homeServer_21 : decode cX5_homeServer 21 = .ok (.getfield 12, 3) := by decide +kernel
theorem dX5_homeServer_24 : decode cX5_homeServer 24 = .ok (.aload_n 0, 1) := by decide +kernel
theorem dX5_homeServer_25 : decode cX5_homeServer 25 = .ok (.getfield 12, 3) := by decide +kernel
theorem dX5_homeServer_28 : decode cX5_homeServer 28 = .ok (.iload_n 1, 1) := by decide +kernel
theorem dX5_homeServer_29 : decode cX5_homeServer 29 = .ok (.invokevirtual 79, 3) := by decide +kernel
theorem dX5_homeServer_32 : decode cX5_homeServer 32 = .ok (.iload_n 2, 1) := by decide +kernel
theorem dX5_homeServer_33 : decode cX5_homeServer 33 = .ok (.invokevirtual 104, 3) := by decide +kernel
theorem dX5_homeServer_36 : decode cX5_homeServer 36 = .ok (.istore_n 3, 1) := by decide +kernel
theorem dX5_homeServer_37 : decode cX5_homeServer 37 = .ok (.iload_n 3, 1) := by decide +kernel
theorem dX5_homeServer_38 : decode cX5_homeServer 38 = .ok (.iconst (-1), 1) := by decide +kernel
theorem dX5_homeServer_39 : decode cX5_homeServer 39 = .ok (.if_icmp .ne 8, 3) := by decide +kernel
theorem dX5_homeServer_42 : decode cX5_homeServer 42 = .ok (.bipush (-9), 2) := by decide +kernel
theorem dX5_homeServer_44 : decode cX5_homeServer 44 = .ok (.goto 4, 3) := by decide +kernel
theorem dX5_homeServer_47 : decode cX5_homeServer 47 = .ok (.iload_n 3, 1) := by decide +kernel
theorem dX5_homeServer_48 : decode cX5_homeServer 48 = .ok (.ireturn, 1) := by decide +kernel
theorem dX5_userTimestamp_0 : decode cX5_userTimestamp 0 = .ok (.aload_n 0, 1) := by decide +kernel
theorem dX5_userTimestamp_1 : decode cX5_userTimestamp 1 = .ok (.getfield 12, 3) := by decide +kernel
theorem dX5_userTimestamp_4 : decode cX5_userTimestamp 4 = .ok (.iload_n 1, 1) := by decide +kernel
theorem dX5_userTimestamp_5 : decode cX5_userTimestamp 5 = .ok (.invokevirtual 97, 3) := by decide +kernel
theorem dX5_userTimestamp_8 : decode cX5_userTimestamp 8 = .ok (.ifCond .eq 10, 3) := by decide +kernel
theorem dX5_userTimestamp_11 : decode cX5_userTimestamp 11 = .ok (.iload_n 2, 1) := by decide +kernel
theorem dX5_userTimestamp_12 : decode cX5_userTimestamp 12 = .ok (.invokestatic 101, 3) := by decide +kernel
theorem dX5_userTimestamp_15 : decode cX5_userTimestamp 15 = .ok (.ifCond .ne 5, 3) := by decide +kernel
theorem dX5_userTimestamp_18 : decode cX5_userTimestamp 18 = .ok (.iconst (-1), 1) := by decide +kernel
theorem dX5_userTimestamp_19 : decode cX5_userTimestamp 19 = .ok (.ireturn, 1) := by decide +kernel
theorem dX5_userTimestamp_20 : decode cX5_userTimestamp 20 = .ok (.aload_n 0, 1) := by decide +kernel
theorem dX5_userTimestamp_21 : decode cX5_userTimestamp 21 = .ok (.getfield 12, 3) := by decide +kernel
theorem dX5_userTimestamp_24 : decode cX5_userTimestamp 24 = .ok (.aload_n 0, 1) := by decide +kernel
theorem dX5_userTimestamp_25 : decode cX5_userTimestamp 25 = .ok (.getfield 12, 3) := by decide +kernel
theorem dX5_userTimestamp_28 : decode cX5_userTimestamp 28 = .ok (.iload_n 1, 1) := by decide +kernel
theorem dX5_userTimestamp_29 : decode cX5_userTimestamp 29 = .ok (.invokevirtual 79, 3) := by decide +kernel
theorem dX5_userTimestamp_32 : decode cX5_userTimestamp 32 = .ok (.iload_n 2, 1) := by decide +kernel
theorem dX5_userTimestamp_33 : decode cX5_userTimestamp 33 = .ok (.invokevirtual 127, 3) := by decide +kernel
theorem dX5_userTimestamp_36 : decode cX5_userTimestamp 36 = .ok (.istore_n 3, 1) := by decide +kernel
theorem dX5_userTimestamp_37 : decode cX5_userTimestamp 37 = .ok (.iload_n 3, 1) := by decide +kernel
theorem dX5_userTimestamp_38 : decode cX5_userTimestamp 38 = .ok (.iconst (-1), 1) := by decide +kernel
theorem dX5_userTimestamp_39 : decode cX5_userTimestamp 39 = .ok (.if_icmp .ne 8, 3) := by decide +kernel
theorem dX5_userTimestamp_42 : decode cX5_userTimestamp 42 = .ok (.bipush (-9), 2) := by decide +kernel
theorem dX5_userTimestamp_44 : decode cX5_userTimestamp 44 = .ok (.goto 4, 3) := by decide +kernel
theorem dX5_userTimestamp_47 : decode cX5_userTimestamp 47 = .ok (.iload_n 3, 1) := by decide +kernel
theorem dX5_userTimestamp_48 : decode cX5_userTimestamp 48 = .ok (.ireturn, 1) := by decide +kernel
theorem dX5_visibleUsers_0 : decode cX5_visibleUsers 0 = .ok (.aload_n 0, 1) := by decide +kernel
theorem dX5_visibleUsers_1 : decode cX5_visibleUsers 1 = .ok (.getfield 12, 3) := by decide +kernel
theorem dX5_visibleUsers_4 : decode cX5_visibleUsers 4 = .ok (.iload_n 1, 1) := by decide +kernel
theorem dX5_visibleUsers_5 : decode cX5_visibleUsers 5 = .ok (.invokevirtual 97, 3) := by decide +kernel
theorem dX5_visibleUsers_8 : decode cX5_visibleUsers 8 = .ok (.ifCond .ne 5, 3) := by decide +kernel
theorem dX5_visibleUsers_11 : decode cX5_visibleUsers 11 = .ok (.iconst (-1), 1) := by decide +kernel
theorem dX5_visibleUsers_12 : decode cX5_visibleUsers 12 = .ok (.ireturn, 1) := by decide +kernel
theorem dX5_visibleUsers_13 : decode cX5_visibleUsers 13 = .ok (.aload_n 0, 1) := by decide +kernel
theorem dX5_visibleUsers_14 : decode cX5_visibleUsers 14 = .ok (.getfield 12, 3) := by decide +kernel
theorem dX5_visibleUsers_17 : decode cX5_visibleUsers 17 = .ok (.aload_n 0, 1) := by decide +kernel
theorem dX5_visibleUsers_18 : decode cX5_visibleUsers 18 = .ok (.getfield 12, 3) := by decide +kernel
theorem dX5_visibleUsers_21 : decode cX5_visibleUsers 21 = .ok (.iload_n 1, 1) := by decide +kernel
theorem dX5_visibleUsers_22 : decode cX5_visibleUsers 22 = .ok (.invokevirtual 79, 3) := by decide +kernel
theorem dX5_visibleUsers_25 : decode cX5_visibleUsers 25 = .ok (.invokevirtual 130, 3) := by decide +kernel
theorem dX5_visibleUsers_28 : decode cX5_visibleUsers 28 = .ok (.ireturn, 1) := by decide +kernel
theorem dX5_join_0 : decode cX5_join 0 = .ok (.aload_n 0, 1) := by decide +kernel
theorem dX5_join_1 : decode cX5_join 1 = .ok (.getfield 12, 3) := by decide +kernel
theorem dX5_join_4 : decode cX5_join 4 = .ok (.iload_n 1, 1) := by decide +kernel
theorem dX5_join_5 : decode cX5_join 5 = .ok (.invokevirtual 97, 3) := by decide +kernel
theorem dX5_join_8 : decode cX5_join 8 = .ok (.ifCond .eq 17, 3) := by decide +kernel
theorem dX5_join_11 : decode cX5_join 11 = .ok (.iload_n 2, 1) := by decide +kernel
theorem dX5_join_12 : decode cX5_join 12 = .ok (.invokestatic 101, 3) := by decide +kernel
theorem dX5_join_15 : decode cX5_join 15 = .ok (.ifCond .eq 10, 3) := by decide +kernel
theorem dX5_join_18 : decode cX5_join 18 = .ok (.iload_n 3, 1) := by decide +kernel
theorem dX5_join_19 : decode cX5_join 19 = .ok (.invokestatic 133, 3) := by decide +kernel
theorem dX5_join_22 : decode cX5_join 22 = .ok (.ifCond .ne 5, 3) := by decide +kernel
theorem dX5_join_25 : decode cX5_join 25 = .ok (.iconst (-1), 1) := by decide +kernel
theorem dX5_join_26 : decode cX5_join 26 = .ok (.ireturn, 1) := by decide +kernel
theorem dX5_join_27 : decode cX5_join 27 = .ok (.aload_n 0, 1) := by decide +kernel
theorem dX5_join_28 : decode cX5_join 28 = .ok (.getfield 12, 3) := by decide +kernel
theorem dX5_join_31 : decode cX5_join 31 = .ok (.iload_n 1, 1) := by decide +kernel
theorem dX5_join_32 : decode cX5_join 32 = .ok (.iload_n 2, 1) := by decide +kernel
theorem dX5_join_33 : decode cX5_join 33 = .ok (.invokevirtual 111, 3) := by decide +kernel
theorem dX5_join_36 : decode cX5_join 36 = .ok (.ifCond .eq 16, 3) := by decide +kernel
theorem dX5_join_39 : decode cX5_join 39 = .ok (.aload_n 0, 1) := by decide +kernel
theorem dX5_join_40 : decode cX5_join 40 = .ok (.getfield 12, 3) := by decide +kernel
theorem dX5_join_43 : decode cX5_join 43 = .ok (.iload_n 1, 1) := by decide +kernel
theorem dX5_join_44 : decode cX5_join 44 = .ok (.iload_n 2, 1) := by decide +kernel
theorem dX5_join_45 : decode cX5_join 45 = .ok (.iload_n 3, 1) := by decide +kernel
theorem dX5_join_46 : decode cX5_join 46 = .ok (.invokevirtual 136, 3) := by decide +kernel
theorem dX5_join_49 : decode cX5_join 49 = .ok (.ifCond .eq 6, 3) := by decide +kernel
theorem dX5_join_52 : decode cX5_join 52 = .ok (.bipush (-2), 2) := by decide +kernel
theorem dX5_join_54 : decode cX5_join 54 = .ok (.ireturn, 1) := by decide +kernel
theorem dX5_join_55 : decode cX5_join 55 = .ok (.aload_n 0, 1) := by decide +kernel
theorem dX5_join_56 : decode cX5_join 56 = .ok (.getfield 12, 3) := by decide +kernel
theorem dX5_join_59 : decode cX5_join 59 = .ok (.iload_n 1, 1) := by decide +kernel
theorem dX5_join_60 : decode cX5_join 60 = .ok (.invokevirtual 79, 3) := by decide +kernel
theorem dX5_join_63 : decode cX5_join 63 = .ok (.istore 4, 2) := by decide +kernel
theorem dX5_join_65 : decode cX5_join 65 = .ok (.aload_n 0, 1) := by decide +kernel
theorem dX5_join_66 : decode cX5_join 66 = .ok (.getfield 19, 3) := by decide +kernel
theorem dX5_join_69 : decode cX5_join 69 = .ok (.aload_n 0, 1) := by decide +kernel
theorem dX5_join_70 : decode cX5_join 70 = .ok (.getfield 12, 3) := by decide +kernel
theorem dX5_join_73 : decode cX5_join 73 = .ok (.invokevirtual 41, 3) := by decide +kernel
theorem dX5_join_76 : decode cX5_join 76 = .ok (.aload_n 0, 1) := by decide +kernel
theorem dX5_join_77 : decode cX5_join 77 = .ok (.getfield 12, 3) := by decide +kernel
theorem dX5_join_80 : decode cX5_join 80 = .ok (.iload_n 1, 1) := by decide +kernel
theorem dX5_join_81 : decode cX5_join 81 = .ok (.iload_n 3, 1) := by decide +kernel
theorem dX5_join_82 : decode cX5_join 82 = .ok (.invokevirtual 140, 3) := by decide +kernel
theorem dX5_join_85 : decode cX5_join 85 = .ok (.ifCond .ne 31, 3) := by decide +kernel
theorem dX5_join_88 : decode cX5_join 88 = .ok (.aload_n 0, 1) := by decide +kernel
theorem dX5_join_89 : decode cX5_join 89 = .ok (.getfield 12, 3) := by decide +kernel
theorem dX5_join_92 : decode cX5_join 92 = .ok (.iload 4, 2) := by decide +kernel
theorem dX5_join_94 : decode cX5_join 94 = .ok (.iload_n 3, 1) := by decide +kernel
theorem dX5_join_95 : decode cX5_join 95 = .ok (.aload_n 0, 1) := by decide +kernel
theorem dX5_join_96 : decode cX5_join 96 = .ok (.getfield 12, 3) := by decide +kernel
theorem dX5_join_99 : decode cX5_join 99 = .ok (.getfield 87, 3) := by decide +kernel
theorem dX5_join_102 : decode cX5_join 102 = .ok (.iconst 0, 1) := by decide +kernel
theorem dX5_join_103 : decode cX5_join 103 = .ok (.invokevirtual 143, 3) := by decide +kernel
theorem dX5_join_106 : decode cX5_join 106 = .ok (.aload_n 0, 1) := by decide +kernel
theorem dX5_join_107 : decode cX5_join 107 = .ok (.getfield 12, 3) := by decide +kernel
theorem dX5_join_110 : decode cX5_join 110 = .ok (.iload_n 1, 1) := by decide +kernel
theorem dX5_join_111 : decode cX5_join 111 = .ok (.iload_n 2, 1) := by decide +kernel
theorem dX5_join_112 : decode cX5_join 112 = .ok (.iload_n 3, 1) := by decide +kernel
theorem dX5_join_113 : decode cX5_join 113 = .ok (.invokevirtual 147, 3) := by decide +kernel
theorem dX5_join_116 : decode cX5_join 116 = .ok (.aload_n 0, 1) := by decide +kernel
theorem dX5_join_117 : decode cX5_join 117 = .ok (.getfield 12, 3) := by decide +kernel
theorem dX5_join_120 : decode cX5_join 120 = .ok (.iload_n 1, 1) := by decide +kernel
theorem dX5_join_121 : decode cX5_join 121 = .ok (.iload_n 2, 1) := by decide +kernel
theorem dX5_join_122 : decode cX5_join 122 = .ok (.iload_n 3, 1) := by decide +kernel
theorem dX5_join_123 : decode cX5_join 123 = .ok (.invokevirtual 150, 3) := by decide +kernel
theorem dX5_join_126 : decode cX5_join 126 = .ok (.aload_n 0, 1) := by decide +kernel
theorem dX5_join_127 : decode cX5_join 127 = .ok (.getfield 12, 3) := by decide +kernel
theorem dX5_join_130 : decode cX5_join 130 = .ok (.iload 4, 2) := by decide +kernel
theorem dX5_join_132 : decode cX5_join 132 = .ok (.iload_n 3, 1) := by decide +kernel
theorem dX5_join_133 : decode cX5_join 133 = .ok (.invokevirtual 153, 3) := by decide +kernel
theorem dX5_join_136 : decode cX5_join 136 = .ok (.invokestatic 82, 3) := by decide +kernel
theorem dX5_join_139 : decode cX5_join 139 = .ok (.ireturn, 1) := by decide +kernel
theorem dX5_part_0 : decode cX5_part 0 = .ok (.aload_n 0, 1) := by decide +kernel
theorem dX5_part_1 : decode cX5_part 1 = .ok (.getfield 12, 3) := by decide +kernel
theorem dX5_part_4 : decode cX5_part 4 = .ok (.iload_n 1, 1) := by decide +kernel
theorem dX5_part_5 : decode cX5_part 5 = .ok (.invokevirtual 97, 3) := by decide +kernel
theorem dX5_part_8 : decode cX5_part 8 = .ok (.ifCond .eq 17, 3) := by decide +kernel
theorem dX5_part_11 : decode cX5_part 11 = .ok (.iload_n 2, 1) := by decide +kernel
theorem dX5_part_12 : decode cX5_part 12 = .ok (.invokestatic 101, 3) := by decide +kernel
theorem dX5_part_15 : decode cX5_part 15 = .ok (.ifCond .eq 10, 3) := by decide +kernel
theorem dX5_part_18 : decode cX5_part 18 = .ok (.iload_n 3, 1) := by decide +kernel
theorem dX5_part_19 : decode cX5_part 19 = .ok (.invokestatic 133, 3) := by decide +kernel
theorem dX5_part_22 : decode cX5_part 22 = .ok (.ifCond .ne 5, 3) := by decide +kernel
theorem dX5_part_25 : decode cX5_part 25 = .ok (.iconst (-1), 1) := by decide +kernel
theorem dX5_part_26 : decode cX5_part 26 = .ok (.ireturn, 1) := by decide +kernel
theorem dX5_part_27 : decode cX5_part 27 = .ok (.aload_n 0, 1) := by decide +kernel
theorem dX5_part_28 : decode cX5_part 28 = .ok (.getfield 12, 3) := by decide +kernel
theorem dX5_part_31 : decode cX5_part 31 = .ok (.iload_n 1, 1) := by decide +kernel
theorem dX5_part_32 : decode cX5_part 32 = .ok (.iload_n 2, 1) := by decide +kernel
theorem dX5_part_33 : decode cX5_part 33 = .ok (.iload_n 3, 1) := by decide +kernel
theorem dX5_part_34 : decode cX5_part 34 = .ok (.invokevirtual 136, 3) := by decide +kernel
theorem dX5_part_37 : decode cX5_part 37 = .ok (.ifCond .ne 6, 3) := by decide +kernel
theorem dX5_part_40 : decode cX5_part 40 = .ok (.bipush (-2), 2) := by decide +kernel
theorem dX5_part_42 : decode cX5_part 42 = .ok (.ireturn, 1) := by decide +kernel
theorem dX5_part_43 : decode cX5_part 43 = .ok (.aload_n 0, 1) := by decide +kernel
theorem dX5_part_44 : decode cX5_part 44 = .ok (.iload_n 1, 1) := by decide +kernel
theorem dX5_part_45 : decode cX5_part 45 = .ok (.iload_n 2, 1) := by decide +kernel
theorem dX5_part_46 : decode cX5_part 46 = .ok (.iload_n 3, 1) := by decide +kernel
theorem dX5_part_47 : decode cX5_part 47 = .ok (.invokevirtual 156, 3) := by decide +kernel
theorem dX5_part_50 : decode cX5_part 50 = .ok (.ireturn, 1) := by decide +kernel
theorem dX5_kick_0 : decode cX5_kick 0 = .ok (.aload_n 0, 1) := by decide +kernel
theorem dX5_kick_1 : decode cX5_kick 1 = .ok (.getfield 12, 3) := by decide +kernel
theorem dX5_kick_4 : decode cX5_kick 4 = .ok (.iload_n 1, 1) := by decide +kernel
theorem dX5_kick_5 : decode cX5_kick 5 = .ok (.invokevirtual 97, 3) := by decide +kernel
theorem dX5_kick_8 : decode cX5_kick 8 = .ok (.ifCond .eq 25, 3) := by decide +kernel
theorem dX5_kick_11 : decode cX5_kick 11 = .ok (.iload_n 2, 1) := by decide +kernel
theorem dX5_kick_12 : decode cX5_kick 12 = .ok (.invokestatic 101, 3) := by decide +kernel
theorem dX5_kick_15 : decode cX5_kick 15 = .ok (.ifCond .eq 18, 3) := by decide +kernel
theorem dX5_kick_18 : decode cX5_kick 18 = .ok (.iload_n 3, 1) := by decide +kernel
theorem dX5_kick_19 : decode cX5_kick 19 = .ok (.invokestatic 133, 3) := by decide +kernel
theorem dX5_kick_22 : decode cX5_kick 22 = .ok (.ifCond .eq 11, 3) := by decide +kernel
theorem dX5_kick_25 : decode cX5_kick 25 = .ok (.iload 4, 2) := by decide +kernel
theorem dX5_kick_27 : decode cX5_kick 27 = .ok (.invokestatic 101, 3) := by decide +kernel
theorem dX5_kick_30 : decode cX5_kick 30 = .ok (.ifCond .ne 5, 3) := by decide +kernel
theorem dX5_kick_33 : decode cX5_kick 33 = .ok (.iconst (-1), 1) := by decide +kernel
theorem dX5_kick_34 : decode cX5_kick 34 = .ok (.ireturn, 1) := by decide +kernel
theorem dX5_kick_35 : decode cX5_kick 35 = .ok (.aload_n 0, 1) := by decide +kernel
theorem dX5_kick_36 : decode cX5_kick 36 = .ok (.getfield 12, 3) := by decide +kernel
theorem dX5_kick_39 : decode cX5_kick 39 = .ok (.iload_n 1, 1) := by decide +kernel
theorem dX5_kick_40 : decode cX5_kick 40 = .ok (.iload_n 2, 1) := by decide +kernel
theorem dX5_kick_41 : decode cX5_kick 41 = .ok (.iload_n 3, 1) := by decide +kernel
theorem dX5_kick_42 : decode cX5_kick 42 = .ok (.invokevirtual 160, 3) := by decide +kernel
theorem dX5_kick_45 : decode cX5_kick 45 = .ok (.ifCond .ne 6, 3) := by decide +kernel
theorem dX5_kick_48 : decode cX5_kick 48 = .ok (.bipush (-2), 2) := by decide +kernel
theorem dX5_kick_50 : decode cX5_kick 50 = .ok (.ireturn, 1) := by decide +kernel
theorem dX5_kick_51 : decode cX5_kick 51 = .ok (.aload_n 0, 1) := by decide +kernel
theorem dX5_kick_52 : decode cX5_kick 52 = .ok (.getfield 12, 3) := by decide +kernel
theorem dX5_kick_55 : decode cX5_kick 55 = .ok (.aload_n 0, 1) := by decide +kernel
theorem dX5_kick_56 : decode cX5_kick 56 = .ok (.getfield 12, 3) := by decide +kernel
theorem dX5_kick_59 : decode cX5_kick 59 = .ok (.iload_n 1, 1) := by decide +kernel
theorem dX5_kick_60 : decode cX5_kick 60 = .ok (.invokevirtual 79, 3) := by decide +kernel
theorem dX5_kick_63 : decode cX5_kick 63 = .ok (.iload 4, 2) := by decide +kernel
theorem dX5_kick_65 : decode cX5_kick 65 = .ok (.invokevirtual 104, 3) := by decide +kernel
theorem dX5_kick_68 : decode cX5_kick 68 = .ok (.istore 5, 2) := by decide +kernel
theorem dX5_kick_70 : decode cX5_kick 70 = .ok (.iload 5, 2) := by decide +kernel
theorem dX5_kick_72 : decode cX5_kick 72 = .ok (.iconst (-1), 1) := by decide +kernel
theorem dX5_kick_73 : decode cX5_kick 73 = .ok (.if_icmp .eq 18, 3) := by decide +kernel
theorem dX5_kick_76 : decode cX5_kick 76 = .ok (.aload_n 0, 1) := by decide +kernel
theorem dX5_kick_77 : decode cX5_kick 77 = .ok (.getfield 12, 3) := by decide +kernel
theorem dX5_kick_80 : decode cX5_kick 80 = .ok (.iload 5, 2) := by decide +kernel
theorem dX5_kick_82 : decode cX5_kick 82 = .ok (.iload 4, 2) := by decide +kernel
theorem dX5_kick_84 : decode cX5_kick 84 = .ok (.iload_n 3, 1) := by decide +kernel
theorem dX5_kick_85 : decode cX5_kick 85 = .ok (.invokevirtual 136, 3) := by decide +kernel
theorem dX5_kick_88 : decode cX5_kick 88 = .ok (.ifCond .ne 6, 3) := by decide +kernel
theorem dX5_kick_91 : decode cX5_kick 91 = .ok (.bipush (-2), 2) := by decide +kernel
theorem dX5_kick_93 : decode cX5_kick 93 = .ok (.ireturn, 1) := by decide +kernel
theorem dX5_kick_94 : decode cX5_kick 94 = .ok (.aload_n 0, 1) := by decide +kernel
theorem dX5_kick_95 : decode cX5_kick 95 = .ok (.iload 5, 2) := by decide +kernel
theorem dX5_kick_97 : decode cX5_kick 97 = .ok (.iload 4, 2) := by decide +kernel
theorem dX5_kick_99 : decode cX5_kick 99 = .ok (.iload_n 3, 1) := by decide +kernel
theorem dX5_kick_100 : decode cX5_kick 100 = .ok (.invokevirtual 156, 3) := by decide +kernel
theorem dX5_kick_103 : decode cX5_kick 103 = .ok (.ireturn, 1) := by decide +kernel
theorem dX5_leaveChannel_0 : decode cX5_leaveChannel 0 = .ok (.aload_n 0, 1) := by decide +kernel
theorem dX5_leaveChannel_1 : decode cX5_leaveChannel 1 = .ok (.getfield 19, 3) := by decide +kernel
theorem dX5_leaveChannel_4 : decode cX5_leaveChannel 4 = .ok (.aload_n 0, 1) := by decide +kernel
theorem dX5_leaveChannel_5 : decode cX5_leaveChannel 5 = .ok (.getfield 12, 3) := by decide +kernel
theorem dX5_leaveChannel_8 : decode cX5_leaveChannel 8 = .ok (.invokevirtual 41, 3) := by decide +kernel
theorem dX5_leaveChannel_11 : decode cX5_leaveChannel 11 = .ok (.aload_n 0, 1) := by decide +kernel
theorem dX5_leaveChannel_12 : decode cX5_leaveChannel 12 = .ok (.getfield 12, 3) := by decide +kernel
theorem dX5_leaveChannel_15 : decode cX5_leaveChannel 15 = .ok (.iload_n 1, 1) := by decide +kernel
theorem dX5_leaveChannel_16 : decode cX5_leaveChannel 16 = .ok (.iload_n 2, 1) := by decide +kernel
theorem dX5_leaveChannel_17 : decode cX5_leaveChannel 17 = .ok (.iload_n 3, 1) := by decide +kernel
theorem dX5_leaveChannel_18 : decode cX5_leaveChannel 18 = .ok (.invokevirtual 163, 3) := by decide +kernel
theorem dX5_leaveChannel_21 : decode cX5_leaveChannel 21 = .ok (.aload_n 0, 1) := by decide +kernel
theorem dX5_leaveChannel_22 : decode cX5_leaveChannel 22 = .ok (.getfield 12, 3) := by decide +kernel
theorem dX5_leaveChannel_25 : decode cX5_leaveChannel 25 = .ok (.aload_n 0, 1) := by decide +kernel
theorem dX5_leaveChannel_26 : decode cX5_leaveChannel 26 = .ok (.getfield 12, 3) := by decide +kernel
theorem dX5_leaveChannel_29 : decode cX5_leaveChannel 29 = .ok (.iload_n 1, 1) := by decide +kernel
theorem dX5_leaveChannel_30 : decode cX5_leaveChannel 30 = .ok (.invokevirtual 79, 3) := by decide +kernel
theorem dX5_leaveChannel_33 : decode cX5_leaveChannel 33 = .ok (.iload_n 3, 1) := by decide +kernel
theorem dX5_leaveChannel_34 : decode cX5_leaveChannel 34 = .ok (.invokevirtual 153, 3) := by decide +kernel
theorem dX5_leaveChannel_37 : decode cX5_leaveChannel 37 = .ok (.invokestatic 82, 3) := by decide +kernel
theorem dX5_leaveChannel_40 : decode cX5_leaveChannel 40 = .ok (.ireturn, 1) := by decide +kernel
theorem dX5_appendCharacter_0 : decode cX5_appendCharacter 0 = .ok (.iload_n 1, 1) := by decide +kernel
theorem dX5_appendCharacter_1 : decode cX5_appendCharacter 1 = .ok (.ifCond .lt 10, 3) := by decide +kernel
theorem dX5_appendCharacter_4 : decode cX5_appendCharacter 4 = .ok (.iload_n 1, 1) := by decide +kernel
theorem dX5_appendCharacter_5 : decode cX5_appendCharacter 5 = .ok (.sipush 255, 3) := by decide +kernel
theorem dX5_appendCharacter_8 : decode cX5_appendCharacter 8 = .ok (.if_icmp .le 5, 3) := by decide +kernel
theorem dX5_appendCharacter_11 : decode cX5_appendCharacter 11 = .ok (.iconst (-1), 1) := by decide +kernel
theorem dX5_appendCharacter_12 : decode cX5_appendCharacter 12 = .ok (.ireturn, 1) := by decide +kernel
theorem dX5_appendCharacter_13 : decode cX5_appendCharacter 13 = .ok (.aload_n 0, 1) := by decide +kernel
theorem dX5_appendCharacter_14 : decode cX5_appendCharacter 14 = .ok (.getfield 26, 3) := by decide +kernel
theorem dX5_appendCharacter_17 : decode cX5_appendCharacter 17 = .ok (.invokevirtual 166, 3) := by decide +kernel
theorem dX5_appendCharacter_20 : decode cX5_appendCharacter 20 = .ok (.ifCond .eq 6, 3) := by decide +kernel
theorem dX5_appendCharacter_23 : decode cX5_appendCharacter 23 = .ok (.bipush (-3), 2) := by decide +kernel
theorem dX5_appendCharacter_25 : decode cX5_appendCharacter 25 = .ok (.ireturn, 1) := by decide +kernel
theorem dX5_appendCharacter_26 : decode cX5_appendCharacter 26 = .ok (.aload_n 0, 1) := by decide +kernel
theorem dX5_appendCharacter_27 : decode cX5_appendCharacter 27 = .ok (.getfield 26, 3) := by decide +kernel
theorem dX5_appendCharacter_30 : decode cX5_appendCharacter 30 = .ok (.iload_n 1, 1) := by decide +kernel
theorem dX5_appendCharacter_31 : decode cX5_appendCharacter 31 = .ok (.i2c, 1) := by decide +kernel
theorem dX5_appendCharacter_32 : decode cX5_appendCharacter 32 = .ok (.invokevirtual 170, 3) := by decide +kernel
theorem dX5_appendCharacter_35 : decode cX5_appendCharacter 35 = .ok (.aload_n 0, 1) := by decide +kernel
theorem dX5_appendCharacter_36 : decode cX5_appendCharacter 36 = .ok (.getfield 26, 3) := by decide +kernel
theorem dX5_appendCharacter_39 : decode cX5_appendCharacter 39 = .ok (.getfield 174, 3) := by decide +kernel
theorem dX5_appendCharacter_42 : decode cX5_appendCharacter 42 = .ok (.ireturn, 1) := by decide +kernel
theorem dX5_clearText_0 : decode cX5_clearText 0 = .ok (.aload_n 0, 1) := by decide +kernel
theorem dX5_clearText_1 : decode cX5_clearText 1 = .ok (.getfield 26, 3) := by decide +kernel
theorem dX5_clearText_4 : decode cX5_clearText 4 = .ok (.getfield 174, 3) := by decide +kernel
theorem dX5_clearText_7 : decode cX5_clearText 7 = .ok (.istore_n 1, 1) := by decide +kernel
theorem dX5_clearText_8 : decode cX5_clearText 8 = .ok (.aload_n 0, 1) := by decide +kernel
theorem dX5_clearText_9 : decode cX5_clearText 9 = .ok (.getfield 26, 3) := by decide +kernel
theorem dX5_clearText_12 : decode cX5_clearText 12 = .ok (.invokevirtual 177, 3) := by decide +kernel
theorem dX5_clearText_15 : decode cX5_clearText 15 = .ok (.iload_n 1, 1) := by decide +kernel
theorem dX5_clearText_16 : decode cX5_clearText 16 = .ok (.ireturn, 1) := by decide +kernel
theorem dX5_applyModes_0 : decode cX5_applyModes 0 = .ok (.aload_n 0, 1) := by decide +kernel
theorem dX5_applyModes_1 : decode cX5_applyModes 1 = .ok (.getfield 12, 3) := by decide +kernel
theorem dX5_applyModes_4 : decode cX5_applyModes 4 = .ok (.iload_n 1, 1) := by decide +kernel
theorem dX5_applyModes_5 : decode cX5_applyModes 5 = .ok (.invokevirtual 97, 3) := by decide +kernel
theorem dX5_applyModes_8 : decode cX5_applyModes 8 = .ok (.ifCond .eq 17, 3) := by decide +kernel
theorem dX5_applyModes_11 : decode cX5_applyModes 11 = .ok (.iload_n 2, 1) := by decide +kernel
theorem dX5_applyModes_12 : decode cX5_applyModes 12 = .ok (.invokestatic 101, 3) := by decide +kernel
theorem dX5_applyModes_15 : decode cX5_applyModes 15 = .ok (.ifCond .eq 10, 3) := by decide +kernel
theorem dX5_applyModes_18 : decode cX5_applyModes 18 = .ok (.iload_n 3, 1) := by decide +kernel
theorem dX5_applyModes_19 : decode cX5_applyModes 19 = .ok (.invokestatic 133, 3) := by decide +kernel
theorem dX5_applyModes_22 : decode cX5_applyModes 22 = .ok (.ifCond .ne 5, 3) := by decide +kernel
theorem dX5_applyModes_25 : decode cX5_applyModes 25 = .ok (.iconst (-1), 1) := by decide +kernel
theorem dX5_applyModes_26 : decode cX5_applyModes 26 = .ok (.ireturn, 1) := by decide +kernel
theorem dX5_applyModes_27 : decode cX5_applyModes 27 = .ok (.aload_n 0, 1) := by decide +kernel
theorem dX5_applyModes_28 : decode cX5_applyModes 28 = .ok (.getfield 12, 3) := by decide +kernel
theorem dX5_applyModes_31 : decode cX5_applyModes 31 = .ok (.iload_n 1, 1) := by decide +kernel
theorem dX5_applyModes_32 : decode cX5_applyModes 32 = .ok (.iload_n 2, 1) := by decide +kernel
theorem dX5_applyModes_33 : decode cX5_applyModes 33 = .ok (.iload_n 3, 1) := by decide +kernel
theorem dX5_applyModes_34 : decode cX5_applyModes 34 = .ok (.invokevirtual 160, 3) := by decide +kernel
theorem dX5_applyModes_37 : decode cX5_applyModes 37 = .ok (.ifCond .ne 6, 3) := by decide +kernel
theorem dX5_applyModes_40 : decode cX5_applyModes 40 = .ok (.bipush (-2), 2) := by decide +kernel
theorem dX5_applyModes_42 : decode cX5_applyModes 42 = .ok (.ireturn, 1) := by decide +kernel
theorem dX5_applyModes_43 : decode cX5_applyModes 43 = .ok (.aload_n 0, 1) := by decide +kernel
theorem dX5_applyModes_44 : decode cX5_applyModes 44 = .ok (.getfield 12, 3) := by decide +kernel
theorem dX5_applyModes_47 : decode cX5_applyModes 47 = .ok (.iload_n 1, 1) := by decide +kernel
theorem dX5_applyModes_48 : decode cX5_applyModes 48 = .ok (.invokevirtual 79, 3) := by decide +kernel
theorem dX5_applyModes_51 : decode cX5_applyModes 51 = .ok (.istore 4, 2) := by decide +kernel
theorem dX5_applyModes_53 : decode cX5_applyModes 53 = .ok (.aload_n 0, 1) := by decide +kernel
theorem dX5_applyModes_54 : decode cX5_applyModes 54 = .ok (.getfield 26, 3) := by decide +kernel
theorem dX5_applyModes_57 : decode cX5_applyModes 57 = .ok (.aload_n 0, 1) := by decide +kernel
theorem dX5_applyModes_58 : decode cX5_applyModes 58 = .ok (.getfield 12, 3) := by decide +kernel
theorem dX5_applyModes_61 : decode cX5_applyModes 61 = .ok (.iload 4, 2) := by decide +kernel
theorem dX5_applyModes_63 : decode cX5_applyModes 63 = .ok (.iload_n 3, 1) := by decide +kernel
theorem dX5_applyModes_64 : decode cX5_applyModes 64 = .ok (.invokevirtual 153, 3) := by decide +kernel
theorem dX5_applyModes_67 : decode cX5_applyModes 67 = .ok (.invokevirtual 180, 3) := by decide +kernel
theorem dX5_applyModes_70 : decode cX5_applyModes 70 = .ok (.istore 5, 2) := by decide +kernel
theorem dX5_applyModes_72 : decode cX5_applyModes 72 = .ok (.iload 5, 2) := by decide +kernel
theorem dX5_applyModes_74 : decode cX5_applyModes 74 = .ok (.iconst (-1), 1) := by decide +kernel
theorem dX5_applyModes_75 : decode cX5_applyModes 75 = .ok (.if_icmp .eq 9, 3) := by decide +kernel
theorem dX5_applyModes_78 : decode cX5_applyModes 78 = .ok (.bipush (-10), 2) := by decide +kernel
theorem dX5_applyModes_80 : decode cX5_applyModes 80 = .ok (.iload 5, 2) := by decide +kernel
theorem dX5_applyModes_82 : decode cX5_applyModes 82 = .ok (.isub, 1) := by decide +kernel
theorem dX5_applyModes_83 : decode cX5_applyModes 83 = .ok (.ireturn, 1) := by decide +kernel
theorem dX5_applyModes_84 : decode cX5_applyModes 84 = .ok (.aload_n 0, 1) := by decide +kernel
theorem dX5_applyModes_85 : decode cX5_applyModes 85 = .ok (.getfield 19, 3) := by decide +kernel
theorem dX5_applyModes_88 : decode cX5_applyModes 88 = .ok (.aload_n 0, 1) := by decide +kernel
theorem dX5_applyModes_89 : decode cX5_applyModes 89 = .ok (.getfield 12, 3) := by decide +kernel
theorem dX5_applyModes_92 : decode cX5_applyModes 92 = .ok (.invokevirtual 41, 3) := by decide +kernel
theorem dX5_applyModes_95 : decode cX5_applyModes 95 = .ok (.aload_n 0, 1) := by decide +kernel
theorem dX5_applyModes_96 : decode cX5_applyModes 96 = .ok (.getfield 12, 3) := by decide +kernel
theorem dX5_applyModes_99 : decode cX5_applyModes 99 = .ok (.iload 4, 2) := by decide +kernel
theorem dX5_applyModes_101 : decode cX5_applyModes 101 = .ok (.iload_n 3, 1) := by decide +kernel
theorem dX5_applyModes_102 : decode cX5_applyModes 102 = .ok (.aload_n 0, 1) := by decide +kernel
theorem dX5_applyModes_103 : decode cX5_applyModes 103 = .ok (.getfield 12, 3) := by decide +kernel
theorem dX5_applyModes_106 : decode cX5_applyModes 106 = .ok (.iload_n 1, 1) := by decide +kernel
theorem dX5_applyModes_107 : decode cX5_applyModes 107 = .ok (.iload_n 3, 1) := by decide +kernel
theorem dX5_applyModes_108 : decode cX5_applyModes 108 = .ok (.invokevirtual 183, 3) := by decide +kernel
theorem dX5_applyModes_111 : decode cX5_applyModes 111 = .ok (.aload_n 0, 1) := by decide +kernel
theorem dX5_applyModes_112 : decode cX5_applyModes 112 = .ok (.getfield 26, 3) := by decide +kernel
theorem dX5_applyModes_115 : decode cX5_applyModes 115 = .ok (.aload_n 0, 1) := by decide +kernel
theorem dX5_applyModes_116 : decode cX5_applyModes 116 = .ok (.getfield 12, 3) := by decide +kernel
theorem dX5_applyModes_119 : decode cX5_applyModes 119 = .ok (.iload_n 1, 1) := by decide +kernel
theorem dX5_applyModes_120 : decode cX5_applyModes 120 = .ok (.iload_n 3, 1) := by decide +kernel
theorem dX5_applyModes_121 : decode cX5_applyModes 121 = .ok (.invokevirtual 186, 3) := by decide +kernel
theorem dX5_applyModes_124 : decode cX5_applyModes 124 = .ok (.invokevirtual 189, 3) := by decide +kernel
theorem dX5_applyModes_127 : decode cX5_applyModes 127 = .ok (.invokevirtual 143, 3) := by decide +kernel
theorem dX5_applyModes_130 : decode cX5_applyModes 130 = .ok (.aload_n 0, 1) := by decide +kernel
theorem dX5_applyModes_131 : decode cX5_applyModes 131 = .ok (.getfield 12, 3) := by decide +kernel
theorem dX5_applyModes_134 : decode cX5_applyModes 134 = .ok (.iload 4, 2) := by decide +kernel
theorem dX5_applyModes_136 : decode cX5_applyModes 136 = .ok (.iload_n 3, 1) := by decide +kernel
theorem dX5_applyModes_137 : decode cX5_applyModes 137 = .ok (.aload_n 0, 1) := by decide +kernel
theorem dX5_applyModes_138 : decode cX5_applyModes 138 = .ok (.getfield 26, 3) := by decide +kernel
theorem dX5_applyModes_141 : decode cX5_applyModes 141 = .ok (.aload_n 0, 1) := by decide +kernel
theorem dX5_applyModes_142 : decode cX5_applyModes 142 = .ok (.getfield 12, 3) := by decide +kernel
theorem dX5_applyModes_145 : decode cX5_applyModes 145 = .ok (.iload 4, 2) := by decide +kernel
theorem dX5_applyModes_147 : decode cX5_applyModes 147 = .ok (.iload_n 3, 1) := by decide +kernel
theorem dX5_applyModes_148 : decode cX5_applyModes 148 = .ok (.invokevirtual 192, 3) := by decide +kernel
theorem dX5_applyModes_151 : decode cX5_applyModes 151 = .ok (.invokevirtual 195, 3) := by decide +kernel
theorem dX5_applyModes_154 : decode cX5_applyModes 154 = .ok (.invokevirtual 198, 3) := by decide +kernel
theorem dX5_applyModes_157 : decode cX5_applyModes 157 = .ok (.aload_n 0, 1) := by decide +kernel
theorem dX5_applyModes_158 : decode cX5_applyModes 158 = .ok (.getfield 26, 3) := by decide +kernel
theorem dX5_applyModes_161 : decode cX5_applyModes 161 = .ok (.invokevirtual 201, 3) := by decide +kernel
theorem dX5_applyModes_164 : decode cX5_applyModes 164 = .ok (.istore 6, 2) := by decide +kernel
theorem dX5_applyModes_166 : decode cX5_applyModes 166 = .ok (.aload_n 0, 1) := by decide +kernel
theorem dX5_applyModes_167 : decode cX5_applyModes 167 = .ok (.getfield 26, 3) := by decide +kernel
theorem dX5_applyModes_170 : decode cX5_applyModes 170 = .ok (.invokevirtual 177, 3) := by decide +kernel
theorem dX5_applyModes_173 : decode cX5_applyModes 173 = .ok (.iload 6, 2) := by decide +kernel
theorem dX5_applyModes_175 : decode cX5_applyModes 175 = .ok (.ireturn, 1) := by decide +kernel
theorem dX5_members_0 : decode cX5_members 0 = .ok (.aload_n 0, 1) := by decide +kernel
theorem dX5_members_1 : decode cX5_members 1 = .ok (.getfield 12, 3) := by decide +kernel
theorem dX5_members_4 : decode cX5_members 4 = .ok (.iload_n 1, 1) := by decide +kernel
theorem dX5_members_5 : decode cX5_members 5 = .ok (.invokevirtual 97, 3) := by decide +kernel
theorem dX5_members_8 : decode cX5_members 8 = .ok (.ifCond .eq 10, 3) := by decide +kernel
theorem dX5_members_11 : decode cX5_members 11 = .ok (.iload_n 2, 1) := by decide +kernel
theorem dX5_members_12 : decode cX5_members 12 = .ok (.invokestatic 133, 3) := by decide +kernel
theorem dX5_members_15 : decode cX5_members 15 = .ok (.ifCond .ne 5, 3) := by decide +kernel
theorem dX5_members_18 : decode cX5_members 18 = .ok (.iconst (-1), 1) := by decide +kernel
theorem dX5_members_19 : decode cX5_members 19 = .ok (.ireturn, 1) := by decide +kernel
theorem dX5_members_20 : decode cX5_members 20 = .ok (.aload_n 0, 1) := by decide +kernel
theorem dX5_members_21 : decode cX5_members 21 = .ok (.getfield 12, 3) := by decide +kernel
theorem dX5_members_24 : decode cX5_members 24 = .ok (.aload_n 0, 1) := by decide +kernel
theorem dX5_members_25 : decode cX5_members 25 = .ok (.getfield 12, 3) := by decide +kernel
theorem dX5_members_28 : decode cX5_members 28 = .ok (.iload_n 1, 1) := by decide +kernel
theorem dX5_members_29 : decode cX5_members 29 = .ok (.invokevirtual 79, 3) := by decide +kernel
theorem dX5_members_32 : decode cX5_members 32 = .ok (.iload_n 2, 1) := by decide +kernel
theorem dX5_members_33 : decode cX5_members 33 = .ok (.invokevirtual 153, 3) := by decide +kernel
theorem dX5_members_36 : decode cX5_members 36 = .ok (.ireturn, 1) := by decide +kernel
theorem dX5_operators_0 : decode cX5_operators 0 = .ok (.aload_n 0, 1) := by decide +kernel
theorem dX5_operators_1 : decode cX5_operators 1 = .ok (.getfield 12, 3) := by decide +kernel
theorem dX5_operators_4 : decode cX5_operators 4 = .ok (.iload_n 1, 1) := by decide +kernel
theorem dX5_operators_5 : decode cX5_operators 5 = .ok (.invokevirtual 97, 3) := by decide +kernel
theorem dX5_operators_8 : decode cX5_operators 8 = .ok (.ifCond .eq 10, 3) := by decide +kernel
theorem dX5_operators_11 : decode cX5_operators 11 = .ok (.iload_n 2, 1) := by decide +kernel
theorem dX5_operators_12 : decode cX5_operators 12 = .ok (.invokestatic 133, 3) := by decide +kernel
theorem dX5_operators_15 : decode cX5_operators 15 = .ok (.ifCond .ne 5, 3) := by decide +kernel
theorem dX5_operators_18 : decode cX5_operators 18 = .ok (.iconst (-1), 1) := by decide +kernel
theorem dX5_operators_19 : decode cX5_operators 19 = .ok (.ireturn, 1) := by decide +kernel
theorem dX5_operators_20 : decode cX5_operators 20 = .ok (.aload_n 0, 1) := by decide +kernel
theorem dX5_operators_21 : decode cX5_operators 21 = .ok (.getfield 12, 3) := by decide +kernel
theorem dX5_operators_24 : decode cX5_operators 24 = .ok (.aload_n 0, 1) := by decide +kernel
theorem dX5_operators_25 : decode cX5_operators 25 = .ok (.getfield 12, 3) := by decide +kernel
theorem dX5_operators_28 : decode cX5_operators 28 = .ok (.iload_n 1, 1) := by decide +kernel
theorem dX5_operators_29 : decode cX5_operators 29 = .ok (.invokevirtual 79, 3) := by decide +kernel
theorem dX5_operators_32 : decode cX5_operators 32 = .ok (.iload_n 2, 1) := by decide +kernel
theorem dX5_operators_33 : decode cX5_operators 33 = .ok (.invokevirtual 192, 3) := by decide +kernel
theorem dX5_operators_36 : decode cX5_operators 36 = .ok (.ireturn, 1) := by decide +kernel
theorem dX5_modes_0 : decode cX5_modes 0 = .ok (.aload_n 0, 1) := by decide +kernel
theorem dX5_modes_1 : decode cX5_modes 1 = .ok (.getfield 12, 3) := by decide +kernel
theorem dX5_modes_4 : decode cX5_modes 4 = .ok (.iload_n 1, 1) := by decide +kernel
theorem dX5_modes_5 : decode cX5_modes 5 = .ok (.invokevirtual 97, 3) := by decide +kernel
theorem dX5_modes_8 : decode cX5_modes 8 = .ok (.ifCond .eq 10, 3) := by decide +kernel
theorem dX5_modes_11 : decode cX5_modes 11 = .ok (.iload_n 2, 1) := by decide +kernel
theorem dX5_modes_12 : decode cX5_modes 12 = .ok (.invokestatic 133, 3) := by decide +kernel
theorem dX5_modes_15 : decode cX5_modes 15 = .ok (.ifCond .ne 5, 3) := by decide +kernel
theorem dX5_modes_18 : decode cX5_modes 18 = .ok (.iconst (-1), 1) := by decide +kernel
theorem dX5_modes_19 : decode cX5_modes 19 = .ok (.ireturn, 1) := by decide +kernel
theorem dX5_modes_20 : decode cX5_modes 20 = .ok (.aload_n 0, 1) := by decide +kernel
theorem dX5_modes_21 : decode cX5_modes 21 = .ok (.getfield 12, 3) := by decide +kernel
theorem dX5_modes_24 : decode cX5_modes 24 = .ok (.iload_n 1, 1) := by decide +kernel
theorem dX5_modes_25 : decode cX5_modes 25 = .ok (.iload_n 2, 1) := by decide +kernel
theorem dX5_modes_26 : decode cX5_modes 26 = .ok (.invokevirtual 140, 3) := by decide +kernel
theorem dX5_modes_29 : decode cX5_modes 29 = .ok (.ifCond .ne 6, 3) := by decide +kernel
theorem dX5_modes_32 : decode cX5_modes 32 = .ok (.bipush (-9), 2) := by decide +kernel
theorem dX5_modes_34 : decode cX5_modes 34 = .ok (.ireturn, 1) := by decide +kernel
theorem dX5_modes_35 : decode cX5_modes 35 = .ok (.aload_n 0, 1) := by decide +kernel
theorem dX5_modes_36 : decode cX5_modes 36 = .ok (.getfield 12, 3) := by decide +kernel
theorem dX5_modes_39 : decode cX5_modes 39 = .ok (.iload_n 1, 1) := by decide +kernel
theorem dX5_modes_40 : decode cX5_modes 40 = .ok (.iload_n 2, 1) := by decide +kernel
theorem dX5_modes_41 : decode cX5_modes 41 = .ok (.invokevirtual 186, 3) := by decide +kernel
theorem dX5_modes_44 : decode cX5_modes 44 = .ok (.ireturn, 1) := by decide +kernel
theorem dX5_channelTimestamp_0 : decode cX5_channelTimestamp 0 = .ok (.aload_n 0, 1) := by decide +kernel
theorem dX5_channelTimestamp_1 : decode cX5_channelTimestamp 1 = .ok (.getfield 12, 3) := by decide +kernel
theorem dX5_channelTimestamp_4 : decode cX5_channelTimestamp 4 = .ok (.iload_n 1, 1) := by decide +kernel
theorem dX5_channelTimestamp_5 : decode cX5_channelTimestamp 5 = .ok (.invokevirtual 97, 3) := by decide +kernel
theorem dX5_channelTimestamp_8 : decode cX5_channelTimestamp 8 = .ok (.ifCond .eq 10, 3) := by decide +kernel
theorem dX5_channelTimestamp_11 : decode cX5_channelTimestamp 11 = .ok (.iload_n 2, 1) := by decide +kernel
theorem dX5_channelTimestamp_12 : decode cX5_channelTimestamp 12 = .ok (.invokestatic 133, 3) := by decide +kernel
theorem dX5_channelTimestamp_15 : decode cX5_channelTimestamp 15 = .ok (.ifCond .ne 5, 3) := by decide +kernel
theorem dX5_channelTimestamp_18 : decode cX5_channelTimestamp 18 = .ok (.iconst (-1), 1) := by decide +kernel
theorem dX5_channelTimestamp_19 : decode cX5_channelTimestamp 19 = .ok (.ireturn, 1) := by decide +kernel
theorem dX5_channelTimestamp_20 : decode cX5_channelTimestamp 20 = .ok (.aload_n 0, 1) := by decide +kernel
theorem dX5_channelTimestamp_21 : decode cX5_channelTimestamp 21 = .ok (.getfield 12, 3) := by decide +kernel
theorem dX5_channelTimestamp_24 : decode cX5_channelTimestamp 24 = .ok (.iload_n 1, 1) := by decide +kernel
theorem dX5_channelTimestamp_25 : decode cX5_channelTimestamp 25 = .ok (.iload_n 2, 1) := by decide +kernel
theorem dX5_channelTimestamp_26 : decode cX5_channelTimestamp 26 = .ok (.invokevirtual 140, 3) := by decide +kernel
theorem dX5_channelTimestamp_29 : decode cX5_channelTimestamp 29 = .ok (.ifCond .ne 6, 3) := by decide +kernel
theorem dX5_channelTimestamp_32 : decode cX5_channelTimestamp 32 = .ok (.bipush (-9), 2) := by decide +kernel
theorem dX5_channelTimestamp_34 : decode cX5_channelTimestamp 34 = .ok (.ireturn, 1) := by decide +kernel
theorem dX5_channelTimestamp_35 : decode cX5_channelTimestamp 35 = .ok (.aload_n 0, 1) := by decide +kernel
theorem dX5_channelTimestamp_36 : decode cX5_channelTimestamp 36 = .ok (.getfield 12, 3) := by decide +kernel
theorem dX5_channelTimestamp_39 : decode cX5_channelTimestamp 39 = .ok (.iload_n 1, 1) := by decide +kernel
theorem dX5_channelTimestamp_40 : decode cX5_channelTimestamp 40 = .ok (.iload_n 2, 1) := by decide +kernel
theorem dX5_channelTimestamp_41 : decode cX5_channelTimestamp 41 = .ok (.invokevirtual 183, 3) := by decide +kernel
theorem dX5_channelTimestamp_44 : decode cX5_channelTimestamp 44 = .ok (.ireturn, 1) := by decide +kernel
theorem dX5_lastDeprived_0 : decode cX5_lastDeprived 0 = .ok (.aload_n 0, 1) := by decide +kernel
theorem dX5_lastDeprived_1 : decode cX5_lastDeprived 1 = .ok (.getfield 12, 3) := by decide +kernel
theorem dX5_lastDeprived_4 : decode cX5_lastDeprived 4 = .ok (.getfield 205, 3) := by decide +kernel
theorem dX5_lastDeprived_7 : decode cX5_lastDeprived 7 = .ok (.ireturn, 1) := by decide +kernel
theorem dX5_lastDropped_0 : decode cX5_lastDropped 0 = .ok (.aload_n 0, 1) := by decide +kernel
theorem dX5_lastDropped_1 : decode cX5_lastDropped 1 = .ok (.getfield 12, 3) := by decide +kernel
theorem dX5_lastDropped_4 : decode cX5_lastDropped 4 = .ok (.getfield 208, 3) := by decide +kernel
theorem dX5_lastDropped_7 : decode cX5_lastDropped 7 = .ok (.ireturn, 1) := by decide +kernel
theorem dX5_burstSize_0 : decode cX5_burstSize 0 = .ok (.aload_n 0, 1) := by decide +kernel
theorem dX5_burstSize_1 : decode cX5_burstSize 1 = .ok (.getfield 12, 3) := by decide +kernel
theorem dX5_burstSize_4 : decode cX5_burstSize 4 = .ok (.iload_n 1, 1) := by decide +kernel
theorem dX5_burstSize_5 : decode cX5_burstSize 5 = .ok (.iload_n 2, 1) := by decide +kernel
theorem dX5_burstSize_6 : decode cX5_burstSize 6 = .ok (.invokevirtual 49, 3) := by decide +kernel
theorem dX5_burstSize_9 : decode cX5_burstSize 9 = .ok (.ifCond .ne 5, 3) := by decide +kernel
theorem dX5_burstSize_12 : decode cX5_burstSize 12 = .ok (.iconst (-1), 1) := by decide +kernel
theorem dX5_burstSize_13 : decode cX5_burstSize 13 = .ok (.ireturn, 1) := by decide +kernel
theorem dX5_burstSize_14 : decode cX5_burstSize 14 = .ok (.aload_n 0, 1) := by decide +kernel
theorem dX5_burstSize_15 : decode cX5_burstSize 15 = .ok (.getfield 12, 3) := by decide +kernel
theorem dX5_burstSize_18 : decode cX5_burstSize 18 = .ok (.iload_n 1, 1) := by decide +kernel
theorem dX5_burstSize_19 : decode cX5_burstSize 19 = .ok (.iload_n 2, 1) := by decide +kernel
theorem dX5_burstSize_20 : decode cX5_burstSize 20 = .ok (.invokevirtual 53, 3) := by decide +kernel
theorem dX5_burstSize_23 : decode cX5_burstSize 23 = .ok (.ifCond .eq 6, 3) := by decide +kernel
theorem dX5_burstSize_26 : decode cX5_burstSize 26 = .ok (.bipush (-2), 2) := by decide +kernel
theorem dX5_burstSize_28 : decode cX5_burstSize 28 = .ok (.ireturn, 1) := by decide +kernel
theorem dX5_burstSize_29 : decode cX5_burstSize 29 = .ok (.aload_n 0, 1) := by decide +kernel
theorem dX5_burstSize_30 : decode cX5_burstSize 30 = .ok (.getfield 12, 3) := by decide +kernel
theorem dX5_burstSize_33 : decode cX5_burstSize 33 = .ok (.iload_n 1, 1) := by decide +kernel
theorem dX5_burstSize_34 : decode cX5_burstSize 34 = .ok (.invokevirtual 211, 3) := by decide +kernel
theorem dX5_burstSize_37 : decode cX5_burstSize 37 = .ok (.aload_n 0, 1) := by decide +kernel
theorem dX5_burstSize_38 : decode cX5_burstSize 38 = .ok (.getfield 12, 3) := by decide +kernel
theorem dX5_burstSize_41 : decode cX5_burstSize 41 = .ok (.iload_n 2, 1) := by decide +kernel
theorem dX5_burstSize_42 : decode cX5_burstSize 42 = .ok (.invokevirtual 211, 3) := by decide +kernel
theorem dX5_burstSize_45 : decode cX5_burstSize 45 = .ok (.iadd, 1) := by decide +kernel
theorem dX5_burstSize_46 : decode cX5_burstSize 46 = .ok (.ireturn, 1) := by decide +kernel
theorem dX5_killsIfConnected_0 : decode cX5_killsIfConnected 0 = .ok (.aload_n 0, 1) := by decide +kernel
theorem dX5_killsIfConnected_1 : decode cX5_killsIfConnected 1 = .ok (.getfield 12, 3) := by decide +kernel
theorem dX5_killsIfConnected_4 : decode cX5_killsIfConnected 4 = .ok (.iload_n 1, 1) := by decide +kernel
theorem dX5_killsIfConnected_5 : decode cX5_killsIfConnected 5 = .ok (.iload_n 2, 1) := by decide +kernel
theorem dX5_killsIfConnected_6 : decode cX5_killsIfConnected 6 = .ok (.invokevirtual 49, 3) := by decide +kernel
theorem dX5_killsIfConnected_9 : decode cX5_killsIfConnected 9 = .ok (.ifCond .ne 5, 3) := by decide +kernel
theorem dX5_killsIfConnected_12 : decode cX5_killsIfConnected 12 = .ok (.iconst (-1), 1) := by decide +kernel
theorem dX5_killsIfConnected_13 : decode cX5_killsIfConnected 13 = .ok (.ireturn, 1) := by decide +kernel
theorem dX5_killsIfConnected_14 : decode cX5_killsIfConnected 14 = .ok (.aload_n 0, 1) := by decide +kernel
theorem dX5_killsIfConnected_15 : decode cX5_killsIfConnected 15 = .ok (.getfield 12, 3) := by decide +kernel
theorem dX5_killsIfConnected_18 : decode cX5_killsIfConnected 18 = .ok (.iload_n 1, 1) := by decide +kernel
theorem dX5_killsIfConnected_19 : decode cX5_killsIfConnected 19 = .ok (.iload_n 2, 1) := by decide +kernel
theorem dX5_killsIfConnected_20 : decode cX5_killsIfConnected 20 = .ok (.invokevirtual 53, 3) := by decide +kernel
theorem dX5_killsIfConnected_23 : decode cX5_killsIfConnected 23 = .ok (.ifCond .eq 6, 3) := by decide +kernel
theorem dX5_killsIfConnected_26 : decode cX5_killsIfConnected 26 = .ok (.bipush (-2), 2) := by decide +kernel
theorem dX5_killsIfConnected_28 : decode cX5_killsIfConnected 28 = .ok (.ireturn, 1) := by decide +kernel
theorem dX5_killsIfConnected_29 : decode cX5_killsIfConnected 29 = .ok (.aload_n 0, 1) := by decide +kernel
theorem dX5_killsIfConnected_30 : decode cX5_killsIfConnected 30 = .ok (.getfield 12, 3) := by decide +kernel
theorem dX5_killsIfConnected_33 : decode cX5_killsIfConnected 33 = .ok (.iload_n 1, 1) := by decide +kernel
theorem dX5_killsIfConnected_34 : decode cX5_killsIfConnected 34 = .ok (.iload_n 2, 1) := by decide +kernel
theorem dX5_killsIfConnected_35 : decode cX5_killsIfConnected 35 = .ok (.invokestatic 56, 3) := by decide +kernel
theorem dX5_killsIfConnected_38 : decode cX5_killsIfConnected 38 = .ok (.ireturn, 1) := by decide +kernel
theorem dX5_lostIfDisconnected_0 : decode cX5_lostIfDisconnected 0 = .ok (.aload_n 0, 1) := by decide +kernel
theorem dX5_lostIfDisconnected_1 : decode cX5_lostIfDisconnected 1 = .ok (.getfield 12, 3) := by decide +kernel
theorem dX5_lostIfDisconnected_4 : decode cX5_lostIfDisconnected 4 = .ok (.iload_n 1, 1) := by decide +kernel
theorem dX5_lostIfDisconnected_5 : decode cX5_lostIfDisconnected 5 = .ok (.iload_n 2, 1) := by decide +kernel
theorem dX5_lostIfDisconnected_6 : decode cX5_lostIfDisconnected 6 = .ok (.invokevirtual 49, 3) := by decide +kernel
theorem dX5_lostIfDisconnected_9 : decode cX5_lostIfDisconnected 9 = .ok (.ifCond .ne 5, 3) := by decide +kernel
theorem dX5_lostIfDisconnected_12 : decode cX5_lostIfDisconnected 12 = .ok (.iconst (-1), 1) := by decide +kernel
theorem dX5_lostIfDisconnected_13 : decode cX5_lostIfDisconnected 13 = .ok (.ireturn, 1) := by decide +kernel
theorem dX5_lostIfDisconnected_14 : decode cX5_lostIfDisconnected 14 = .ok (.aload_n 0, 1) := by decide +kernel
theorem dX5_lostIfDisconnected_15 : decode cX5_lostIfDisconnected 15 = .ok (.getfield 12, 3) := by decide +kernel
theorem dX5_lostIfDisconnected_18 : decode cX5_lostIfDisconnected 18 = .ok (.iload_n 1, 1) := by decide +kernel
theorem dX5_lostIfDisconnected_19 : decode cX5_lostIfDisconnected 19 = .ok (.iload_n 2, 1) := by decide +kernel
theorem dX5_lostIfDisconnected_20 : decode cX5_lostIfDisconnected 20 = .ok (.invokevirtual 73, 3) := by decide +kernel
theorem dX5_lostIfDisconnected_23 : decode cX5_lostIfDisconnected 23 = .ok (.ifCond .ne 6, 3) := by decide +kernel
theorem dX5_lostIfDisconnected_26 : decode cX5_lostIfDisconnected 26 = .ok (.bipush (-2), 2) := by decide +kernel
theorem dX5_lostIfDisconnected_28 : decode cX5_lostIfDisconnected 28 = .ok (.ireturn, 1) := by decide +kernel
theorem dX5_lostIfDisconnected_29 : decode cX5_lostIfDisconnected 29 = .ok (.aload_n 0, 1) := by decide +kernel
theorem dX5_lostIfDisconnected_30 : decode cX5_lostIfDisconnected 30 = .ok (.getfield 12, 3) := by decide +kernel
theorem dX5_lostIfDisconnected_33 : decode cX5_lostIfDisconnected 33 = .ok (.aload_n 0, 1) := by decide +kernel
theorem dX5_lostIfDisconnected_34 : decode cX5_lostIfDisconnected 34 = .ok (.getfield 12, 3) := by decide +kernel
theorem dX5_lostIfDisconnected_37 : decode cX5_lostIfDisconnected 37 = .ok (.iconst 0, 1) := by decide +kernel
theorem dX5_lostIfDisconnected_38 : decode cX5_lostIfDisconnected 38 = .ok (.invokevirtual 79, 3) := by decide +kernel
theorem dX5_lostIfDisconnected_41 : decode cX5_lostIfDisconnected 41 = .ok (.invokevirtual 37, 3) := by decide +kernel
theorem dX5_lostIfDisconnected_44 : decode cX5_lostIfDisconnected 44 = .ok (.istore_n 3, 1) := by decide +kernel
theorem dX5_lostIfDisconnected_45 : decode cX5_lostIfDisconnected 45 = .ok (.aload_n 0, 1) := by decide +kernel
theorem dX5_lostIfDisconnected_46 : decode cX5_lostIfDisconnected 46 = .ok (.getfield 12, 3) := by decide +kernel
theorem dX5_lostIfDisconnected_49 : decode cX5_lostIfDisconnected 49 = .ok (.iload_n 1, 1) := by decide +kernel
theorem dX5_lostIfDisconnected_50 : decode cX5_lostIfDisconnected 50 = .ok (.iload_n 2, 1) := by decide +kernel
theorem dX5_lostIfDisconnected_51 : decode cX5_lostIfDisconnected 51 = .ok (.invokevirtual 76, 3) := by decide +kernel
theorem dX5_lostIfDisconnected_54 : decode cX5_lostIfDisconnected 54 = .ok (.aload_n 0, 1) := by decide +kernel
theorem dX5_lostIfDisconnected_55 : decode cX5_lostIfDisconnected 55 = .ok (.getfield 12, 3) := by decide +kernel
theorem dX5_lostIfDisconnected_58 : decode cX5_lostIfDisconnected 58 = .ok (.aload_n 0, 1) := by decide +kernel
theorem dX5_lostIfDisconnected_59 : decode cX5_lostIfDisconnected 59 = .ok (.getfield 12, 3) := by decide +kernel
theorem dX5_lostIfDisconnected_62 : decode cX5_lostIfDisconnected 62 = .ok (.iconst 0, 1) := by decide +kernel
theorem dX5_lostIfDisconnected_63 : decode cX5_lostIfDisconnected 63 = .ok (.invokevirtual 79, 3) := by decide +kernel
theorem dX5_lostIfDisconnected_66 : decode cX5_lostIfDisconnected 66 = .ok (.invokevirtual 37, 3) := by decide +kernel
theorem dX5_lostIfDisconnected_69 : decode cX5_lostIfDisconnected 69 = .ok (.istore 4, 2) := by decide +kernel
theorem dX5_lostIfDisconnected_71 : decode cX5_lostIfDisconnected 71 = .ok (.aload_n 0, 1) := by decide +kernel
theorem dX5_lostIfDisconnected_72 : decode cX5_lostIfDisconnected 72 = .ok (.getfield 12, 3) := by decide +kernel
theorem dX5_lostIfDisconnected_75 : decode cX5_lostIfDisconnected 75 = .ok (.iload_n 1, 1) := by decide +kernel
theorem dX5_lostIfDisconnected_76 : decode cX5_lostIfDisconnected 76 = .ok (.iload_n 2, 1) := by decide +kernel
theorem dX5_lostIfDisconnected_77 : decode cX5_lostIfDisconnected 77 = .ok (.invokevirtual 69, 3) := by decide +kernel
theorem dX5_lostIfDisconnected_80 : decode cX5_lostIfDisconnected 80 = .ok (.iload_n 3, 1) := by decide +kernel
theorem dX5_lostIfDisconnected_81 : decode cX5_lostIfDisconnected 81 = .ok (.iload 4, 2) := by decide +kernel
theorem dX5_lostIfDisconnected_83 : decode cX5_lostIfDisconnected 83 = .ok (.isub, 1) := by decide +kernel
theorem dX5_lostIfDisconnected_84 : decode cX5_lostIfDisconnected 84 = .ok (.ireturn, 1) := by decide +kernel
theorem dX5_fewestKills_0 : decode cX5_fewestKills 0 = .ok (.aload_n 0, 1) := by decide +kernel
theorem dX5_fewestKills_1 : decode cX5_fewestKills 1 = .ok (.getfield 33, 3) := by decide +kernel
theorem dX5_fewestKills_4 : decode cX5_fewestKills 4 = .ok (.aload_n 0, 1) := by decide +kernel
theorem dX5_fewestKills_5 : decode cX5_fewestKills 5 = .ok (.getfield 12, 3) := by decide +kernel
theorem dX5_fewestKills_8 : decode cX5_fewestKills 8 = .ok (.invokevirtual 214, 3) := by decide +kernel
theorem dX5_fewestKills_11 : decode cX5_fewestKills 11 = .ok (.aload_n 0, 1) := by decide +kernel
theorem dX5_fewestKills_12 : decode cX5_fewestKills 12 = .ok (.getfield 12, 3) := by decide +kernel
theorem dX5_fewestKills_15 : decode cX5_fewestKills 15 = .ok (.bipush 63, 2) := by decide +kernel
theorem dX5_fewestKills_17 : decode cX5_fewestKills 17 = .ok (.invokevirtual 37, 3) := by decide +kernel
theorem dX5_fewestKills_20 : decode cX5_fewestKills 20 = .ok (.aload_n 0, 1) := by decide +kernel
theorem dX5_fewestKills_21 : decode cX5_fewestKills 21 = .ok (.getfield 33, 3) := by decide +kernel
theorem dX5_fewestKills_24 : decode cX5_fewestKills 24 = .ok (.getfield 217, 3) := by decide +kernel
theorem dX5_fewestKills_27 : decode cX5_fewestKills 27 = .ok (.isub, 1) := by decide +kernel
theorem dX5_fewestKills_28 : decode cX5_fewestKills 28 = .ok (.ireturn, 1) := by decide +kernel
theorem dX5_bestFirstLink_0 : decode cX5_bestFirstLink 0 = .ok (.aload_n 0, 1) := by decide +kernel
theorem dX5_bestFirstLink_1 : decode cX5_bestFirstLink 1 = .ok (.getfield 33, 3) := by decide +kernel
theorem dX5_bestFirstLink_4 : decode cX5_bestFirstLink 4 = .ok (.aload_n 0, 1) := by decide +kernel
theorem dX5_bestFirstLink_5 : decode cX5_bestFirstLink 5 = .ok (.getfield 12, 3) := by decide +kernel
theorem dX5_bestFirstLink_8 : decode cX5_bestFirstLink 8 = .ok (.invokevirtual 214, 3) := by decide +kernel
theorem dX5_bestFirstLink_11 : decode cX5_bestFirstLink 11 = .ok (.aload_n 0, 1) := by decide +kernel
theorem dX5_bestFirstLink_12 : decode cX5_bestFirstLink 12 = .ok (.getfield 33, 3) := by decide +kernel
theorem dX5_bestFirstLink_15 : decode cX5_bestFirstLink 15 = .ok (.getfield 220, 3) := by decide +kernel
theorem dX5_bestFirstLink_18 : decode cX5_bestFirstLink 18 = .ok (.ireturn, 1) := by decide +kernel
theorem dX5_undo_0 : decode cX5_undo 0 = .ok (.aload_n 0, 1) := by decide +kernel
theorem dX5_undo_1 : decode cX5_undo 1 = .ok (.getfield 19, 3) := by decide +kernel
theorem dX5_undo_4 : decode cX5_undo 4 = .ok (.getfield 223, 3) := by decide +kernel
theorem dX5_undo_7 : decode cX5_undo 7 = .ok (.ifCond .ne 6, 3) := by decide +kernel
theorem dX5_undo_10 : decode cX5_undo 10 = .ok (.bipush (-2), 2) := by decide +kernel
theorem dX5_undo_12 : decode cX5_undo 12 = .ok (.ireturn, 1) := by decide +kernel
theorem dX5_undo_13 : decode cX5_undo 13 = .ok (.aload_n 0, 1) := by decide +kernel
theorem dX5_undo_14 : decode cX5_undo 14 = .ok (.getfield 19, 3) := by decide +kernel
theorem dX5_undo_17 : decode cX5_undo 17 = .ok (.aload_n 0, 1) := by decide +kernel
theorem dX5_undo_18 : decode cX5_undo 18 = .ok (.getfield 12, 3) := by decide +kernel
theorem dX5_undo_21 : decode cX5_undo 21 = .ok (.invokevirtual 226, 3) := by decide +kernel
theorem dX5_undo_24 : decode cX5_undo 24 = .ok (.aload_n 0, 1) := by decide +kernel
theorem dX5_undo_25 : decode cX5_undo 25 = .ok (.getfield 19, 3) := by decide +kernel
theorem dX5_undo_28 : decode cX5_undo 28 = .ok (.getfield 223, 3) := by decide +kernel
theorem dX5_undo_31 : decode cX5_undo 31 = .ok (.ireturn, 1) := by decide +kernel
theorem dX5_isNick_0 : decode cX5_isNick 0 = .ok (.iload_n 0, 1) := by decide +kernel
theorem dX5_isNick_1 : decode cX5_isNick 1 = .ok (.ifCond .lt 13, 3) := by decide +kernel
theorem dX5_isNick_4 : decode cX5_isNick 4 = .ok (.iload_n 0, 1) := by decide +kernel
theorem dX5_isNick_5 : decode cX5_isNick 5 = .ok (.bipush 10, 2) := by decide +kernel
theorem dX5_isNick_7 : decode cX5_isNick 7 = .ok (.if_icmp .ge 7, 3) := by decide +kernel
theorem dX5_isNick_10 : decode cX5_isNick 10 = .ok (.iconst 1, 1) := by decide +kernel
theorem dX5_isNick_11 : decode cX5_isNick 11 = .ok (.goto 4, 3) := by decide +kernel
theorem dX5_isNick_14 : decode cX5_isNick 14 = .ok (.iconst 0, 1) := by decide +kernel
theorem dX5_isNick_15 : decode cX5_isNick 15 = .ok (.ireturn, 1) := by decide +kernel
theorem dX5_isChannel_0 : decode cX5_isChannel 0 = .ok (.iload_n 0, 1) := by decide +kernel
theorem dX5_isChannel_1 : decode cX5_isChannel 1 = .ok (.ifCond .lt 12, 3) := by decide +kernel
theorem dX5_isChannel_4 : decode cX5_isChannel 4 = .ok (.iload_n 0, 1) := by decide +kernel
theorem dX5_isChannel_5 : decode cX5_isChannel 5 = .ok (.iconst 4, 1) := by decide +kernel
theorem dX5_isChannel_6 : decode cX5_isChannel 6 = .ok (.if_icmp .ge 7, 3) := by decide +kernel
theorem dX5_isChannel_9 : decode cX5_isChannel 9 = .ok (.iconst 1, 1) := by decide +kernel
theorem dX5_isChannel_10 : decode cX5_isChannel 10 = .ok (.goto 4, 3) := by decide +kernel
theorem dX5_isChannel_13 : decode cX5_isChannel 13 = .ok (.iconst 0, 1) := by decide +kernel
theorem dX5_isChannel_14 : decode cX5_isChannel 14 = .ok (.ireturn, 1) := by decide +kernel
theorem dX5_hasBit_0 : decode cX5_hasBit 0 = .ok (.iload_n 0, 1) := by decide +kernel
theorem dX5_hasBit_1 : decode cX5_hasBit 1 = .ok (.iload_n 1, 1) := by decide +kernel
theorem dX5_hasBit_2 : decode cX5_hasBit 2 = .ok (.ishr, 1) := by decide +kernel
theorem dX5_hasBit_3 : decode cX5_hasBit 3 = .ok (.iconst 1, 1) := by decide +kernel
theorem dX5_hasBit_4 : decode cX5_hasBit 4 = .ok (.iand, 1) := by decide +kernel
theorem dX5_hasBit_5 : decode cX5_hasBit 5 = .ok (.ifCond .eq 7, 3) := by decide +kernel
theorem dX5_hasBit_8 : decode cX5_hasBit 8 = .ok (.iconst 1, 1) := by decide +kernel
theorem dX5_hasBit_9 : decode cX5_hasBit 9 = .ok (.goto 4, 3) := by decide +kernel
theorem dX5_hasBit_12 : decode cX5_hasBit 12 = .ok (.iconst 0, 1) := by decide +kernel
theorem dX5_hasBit_13 : decode cX5_hasBit 13 = .ok (.ireturn, 1) := by decide +kernel
theorem dX5_withBit_0 : decode cX5_withBit 0 = .ok (.iload_n 2, 1) := by decide +kernel
theorem dX5_withBit_1 : decode cX5_withBit 1 = .ok (.ifCond .eq 11, 3) := by decide +kernel
theorem dX5_withBit_4 : decode cX5_withBit 4 = .ok (.iload_n 0, 1) := by decide +kernel
theorem dX5_withBit_5 : decode cX5_withBit 5 = .ok (.iconst 1, 1) := by decide +kernel
theorem dX5_withBit_6 : decode cX5_withBit 6 = .ok (.iload_n 1, 1) := by decide +kernel
theorem dX5_withBit_7 : decode cX5_withBit 7 = .ok (.ishl, 1) := by decide +kernel
theorem dX5_withBit_8 : decode cX5_withBit 8 = .ok (.ior, 1) := by decide +kernel
theorem dX5_withBit_9 : decode cX5_withBit 9 = .ok (.goto 10, 3) := by decide +kernel
theorem dX5_withBit_12 : decode cX5_withBit 12 = .ok (.iload_n 0, 1) := by decide +kernel
theorem dX5_withBit_13 : decode cX5_withBit 13 = .ok (.iconst 1, 1) := by decide +kernel
theorem dX5_withBit_14 : decode cX5_withBit 14 = .ok (.iload_n 1, 1) := by decide +kernel
theorem dX5_withBit_15 : decode cX5_withBit 15 = .ok (.ishl, 1) := by decide +kernel
theorem dX5_withBit_16 : decode cX5_withBit 16 = .ok (.iconst (-1), 1) := by decide +kernel
theorem dX5_withBit_17 : decode cX5_withBit 17 = .ok (.ixor, 1) := by decide +kernel
theorem dX5_withBit_18 : decode cX5_withBit 18 = .ok (.iand, 1) := by decide +kernel
theorem dX5_withBit_19 : decode cX5_withBit 19 = .ok (.ireturn, 1) := by decide +kernel
end
section
theorem dX6_init_0 : decode cX6_init 0 = .ok (.aload_n 0, 1) := by decide +kernel
theorem dX6_init_1 : decode cX6_init 1 = .ok (.invokespecial 1, 3) := by decide +kernel
theorem dX6_init_4 : decode cX6_init 4 = .ok (.aload_n 0, 1) := by decide +kernel
theorem dX6_init_5 : decode cX6_init 5 = .ok (.sipush 238, 3) := by decide +kernel
theorem dX6_init_8 : decode cX6_init 8 = .ok (.newarray .int, 2) := by decide +kernel
theorem dX6_init_10 : decode cX6_init 10 = .ok (.putfield 7, 3) := by decide +kernel
theorem dX6_init_13 : decode cX6_init 13 = .ok (.aload_n 0, 1) := by decide +kernel
theorem dX6_init_14 : decode cX6_init 14 = .ok (.sipush 1904, 3) := by decide +kernel
theorem dX6_init_17 : decode cX6_init 17 = .ok (.newarray .int, 2) := by decide +kernel
theorem dX6_init_19 : decode cX6_init 19 = .ok (.putfield 13, 3) := by decide +kernel
theorem dX6_init_22 : decode cX6_init 22 = .ok (.aload_n 0, 1) := by decide +kernel
theorem dX6_init_23 : decode cX6_init 23 = .ok (.bipush 40, 2) := by decide +kernel
theorem dX6_init_25 : decode cX6_init 25 = .ok (.newarray .int, 2) := by decide +kernel
theorem dX6_init_27 : decode cX6_init 27 = .ok (.putfield 16, 3) := by decide +kernel
theorem dX6_init_30 : decode cX6_init 30 = .ok (.aload_n 0, 1) := by decide +kernel
theorem dX6_init_31 : decode cX6_init 31 = .ok (.sipush 360, 3) := by decide +kernel
theorem dX6_init_34 : decode cX6_init 34 = .ok (.newarray .int, 2) := by decide +kernel
theorem dX6_init_36 : decode cX6_init 36 = .ok (.putfield 19, 3) := by decide +kernel
theorem dX6_init_39 : decode cX6_init 39 = .ok (.aload_n 0, 1) := by decide +kernel
theorem dX6_init_40 : decode cX6_init 40 = .ok (.bipush 6, 2) := by decide +kernel
theorem dX6_init_42 : decode cX6_init 42 = .ok (.newarray .int, 2) := by decide +kernel
theorem dX6_init_44 : decode cX6_init 44 = .ok (.putfield 22, 3) := by decide +kernel
theorem dX6_init_47 : decode cX6_init 47 = .ok (.aload_n 0, 1) := by decide +kernel
theorem dX6_init_48 : decode cX6_init 48 = .ok (.bipush 6, 2) := by decide +kernel
theorem dX6_init_50 : decode cX6_init 50 = .ok (.newarray .int, 2) := by decide +kernel
theorem dX6_init_52 : decode cX6_init 52 = .ok (.putfield 25, 3) := by decide +kernel
theorem dX6_init_55 : decode cX6_init 55 = .ok (.aload_n 0, 1) := by decide +kernel
theorem dX6_init_56 : decode cX6_init 56 = .ok (.bipush 6, 2) := by decide +kernel
theorem dX6_init_58 : decode cX6_init 58 = .ok (.newarray .int, 2) := by decide +kernel
theorem dX6_init_60 : decode cX6_init 60 = .ok (.putfield 28, 3) := by decide +kernel
theorem dX6_init_63 : decode cX6_init 63 = .ok (.aload_n 0, 1) := by decide +kernel
theorem dX6_init_64 : decode cX6_init 64 = .ok (.bipush 6, 2) := by decide +kernel
theorem dX6_init_66 : decode cX6_init 66 = .ok (.newarray .int, 2) := by decide +kernel
theorem dX6_init_68 : decode cX6_init 68 = .ok (.putfield 31, 3) := by decide +kernel
theorem dX6_init_71 : decode cX6_init 71 = .ok (.aload_n 0, 1) := by decide +kernel
theorem dX6_init_72 : decode cX6_init 72 = .ok (.iconst 1, 1) := by decide +kernel
theorem dX6_init_73 : decode cX6_init 73 = .ok (.invokevirtual 34, 3) := by decide +kernel
theorem dX6_init_76 : decode cX6_init 76 = .ok (.return_, 1) := by decide +kernel
theorem dX6_in_0 : decode cX6_in 0 = .ok (.iload_n 0, 1) := by decide +kernel
theorem dX6_in_1 : decode cX6_in 1 = .ok (.iload_n 1, 1) := by decide +kernel
theorem dX6_in_2 : decode cX6_in 2 = .ok (.if_icmp .lt 12, 3) := by decide +kernel
theorem dX6_in_5 : decode cX6_in 5 = .ok (.iload_n 0, 1) := by decide +kernel
theorem dX6_in_6 : decode cX6_in 6 = .ok (.iload_n 2, 1) := by decide +kernel
theorem dX6_in_7 : decode cX6_in 7 = .ok (.if_icmp .gt 7, 3) := by decide +kernel
theorem dX6_in_10 : decode cX6_in 10 = .ok (.iconst 1, 1) := by decide +kernel
theorem dX6_in_11 : decode cX6_in 11 = .ok (.goto 4, 3) := by decide +kernel
theorem dX6_in_14 : decode cX6_in 14 = .ok (.iconst 0, 1) := by decide +kernel
theorem dX6_in_15 : decode cX6_in 15 = .ok (.ireturn, 1) := by decide +kernel
theorem dX6_has_0 : decode cX6_has 0 = .ok (.iload_n 0, 1) := by decide +kernel
theorem dX6_has_1 : decode cX6_has 1 = .ok (.iload_n 1, 1) := by decide +kernel
theorem dX6_has_2 : decode cX6_has 2 = .ok (.ishr, 1) := by decide +kernel
theorem dX6_has_3 : decode cX6_has 3 = .ok (.iconst 1, 1) := by decide +kernel
theorem dX6_has_4 : decode cX6_has 4 = .ok (.iand, 1) := by decide +kernel
theorem dX6_has_5 : decode cX6_has 5 = .ok (.iconst 1, 1) := by decide +kernel
theorem dX6_has_6 : decode cX6_has 6 = .ok (.if_icmp .ne 7, 3) := by decide +kernel
theorem dX6_has_9 : decode cX6_has 9 = .ok (.iconst 1, 1) := by decide +kernel
theorem dX6_has_10 : decode cX6_has 10 = .ok (.goto 4, 3) := by decide +kernel
theorem dX6_has_13 : decode cX6_has 13 = .ok (.iconst 0, 1) := by decide +kernel
theorem dX6_has_14 : decode cX6_has 14 = .ok (.ireturn, 1) := by decide +kernel
theorem dX6_bitCount_0 : decode cX6_bitCount 0 = .ok (.iconst 0, 1) := by decide +kernel
theorem dX6_bitCount_1 : decode cX6_bitCount 1 = .ok (.istore_n 1, 1) := by decide +kernel
theorem dX6_bitCount_2 : decode cX6_bitCount 2 = .ok (.iconst 0, 1) := by decide +kernel
theorem dX6_bitCount_3 : decode cX6_bitCount 3 = .ok (.istore_n 2, 1) := by decide +kernel
theorem dX6_bitCount_4 : decode cX6_bitCount 4 = .ok (.iload_n 2, 1) := by decide +kernel
theorem dX6_bitCount_5 : decode cX6_bitCount 5 = .ok (.bipush 10, 2) := by decide +kernel
theorem dX6_bitCount_7 : decode cX6_bitCount 7 = .ok (.if_icmp .ge 17, 3) := by decide +kernel
theorem dX6_bitCount_10 : decode cX6_bitCount 10 = .ok (.iload_n 1, 1) := by decide +kernel
theorem dX6_bitCount_11 : decode cX6_bitCount 11 = .ok (.iload_n 0, 1) := by decide +kernel
theorem dX6_bitCount_12 : decode cX6_bitCount 12 = .ok (.iload_n 2, 1) := by decide +kernel
theorem dX6_bitCount_13 : decode cX6_bitCount 13 = .ok (.ishr, 1) := by decide +kernel
theorem dX6_bitCount_14 : decode cX6_bitCount 14 = .ok (.iconst 1, 1) := by decide +kernel
theorem dX6_bitCount_15 : decode cX6_bitCount 15 = .ok (.iand, 1) := by decide +kernel
theorem dX6_bitCount_16 : decode cX6_bitCount 16 = .ok (.iadd, 1) := by decide +kernel
theorem dX6_bitCount_17 : decode cX6_bitCount 17 = .ok (.istore_n 1, 1) := by decide +kernel
theorem dX6_bitCount_18 : decode cX6_bitCount 18 = .ok (.iinc 2 1, 3) := by decide +kernel
theorem dX6_bitCount_21 : decode cX6_bitCount 21 = .ok (.goto (-17), 3) := by decide +kernel
theorem dX6_bitCount_24 : decode cX6_bitCount 24 = .ok (.iload_n 1, 1) := by decide +kernel
theorem dX6_bitCount_25 : decode cX6_bitCount 25 = .ok (.ireturn, 1) := by decide +kernel
theorem dX6_reset_0 : decode cX6_reset 0 = .ok (.iconst 0, 1) := by decide +kernel
theorem dX6_reset_1 : decode cX6_reset 1 = .ok (.istore_n 2, 1) := by decide +kernel
theorem dX6_reset_2 : decode cX6_reset 2 = .ok (.iload_n 2, 1) := by decide +kernel
theorem dX6_reset_3 : decode cX6_reset 3 = .ok (.sipush 238, 3) := by decide +kernel
theorem dX6_reset_6 : decode cX6_reset 6 = .ok (.if_icmp .ge 33, 3) := by decide +kernel
theorem dX6_reset_9 : decode cX6_reset 9 = .ok (.aload_n 0, 1) := by decide +kernel
theorem dX6_reset_10 : decode cX6_reset 10 = .ok (.getfield 7, 3) := by decide +kernel
theorem dX6_reset_13 : decode cX6_reset 13 = .ok (.iload_n 2, 1) := by decide +kernel
theorem dX6_reset_14 : decode cX6_reset 14 = .ok (.iload_n 2, 1) := by decide +kernel
theorem dX6_reset_15 : decode cX6_reset 15 = .ok (.bipush 10, 2) := by decide +kernel
theorem dX6_reset_17 : decode cX6_reset 17 = .ok (.if_icmp .lt 14, 3) := by decide +kernel
theorem dX6_reset_20 : decode cX6_reset 20 = .ok (.iload_n 2, 1) := by decide +kernel
theorem dX6_reset_21 : decode cX6_reset 21 = .ok (.bipush 70, 2) := by decide +kernel
theorem dX6_reset_23 : decode cX6_reset 23 = .ok (.if_icmp .ge 8, 3) := by decide +kernel
theorem dX6_reset_26 : decode cX6_reset 26 = .ok (.bipush (-9), 2) := by decide +kernel
theorem dX6_reset_28 : decode cX6_reset 28 = .ok (.goto 4, 3) := by decide +kernel
theorem dX6_reset_31 : decode cX6_reset 31 = .ok (.iconst 0, 1) := by decide +kernel
theorem dX6_reset_32 : decode cX6_reset 32 = .ok (.iastore, 1) := by decide +kernel
theorem dX6_reset_33 : decode cX6_reset 33 = .ok (.iinc 2 1, 3) := by decide +kernel
theorem dX6_reset_36 : decode cX6_reset 36 = .ok (.goto (-34), 3) := by decide +kernel
theorem dX6_reset_39 : decode cX6_reset 39 = .ok (.aload_n 0, 1) := by decide +kernel
theorem dX6_reset_40 : decode cX6_reset 40 = .ok (.getfield 7, 3) := by decide +kernel
theorem dX6_reset_43 : decode cX6_reset 43 = .ok (.iconst 0, 1) := by decide +kernel
theorem dX6_reset_44 : decode cX6_reset 44 = .ok (.iload_n 1, 1) := by decide +kernel
theorem dX6_reset_45 : decode cX6_reset 45 = .ok (.iastore, 1) := by decide +kernel
theorem dX6_reset_46 : decode cX6_reset 46 = .ok (.return_, 1) := by decide +kernel
theorem dX6_save_0 : decode cX6_save 0 = .ok (.aload_n 0, 1) := by decide +kernel
theorem dX6_save_1 : decode cX6_save 1 = .ok (.getfield 38, 3) := by decide +kernel
theorem dX6_save_4 : decode cX6_save 4 = .ok (.bipush 8, 2) := by decide +kernel
theorem dX6_save_6 : decode cX6_save 6 = .ok (.if_icmp .ne 44, 3) := by decide +kernel
theorem dX6_save_9 : decode cX6_save 9 = .ok (.iconst 0, 1) := by decide +kernel
theorem dX6_save_10 : decode cX6_save 10 = .ok (.istore_n 1, 1) := by decide +kernel
theorem dX6_save_11 : decode cX6_save 11 = .ok (.iload_n 1, 1) := by decide +kernel
theorem dX6_save_12 : decode cX6_save 12 = .ok (.sipush 1666, 3) := by decide +kernel
theorem dX6_save_15 : decode cX6_save 15 = .ok (.if_icmp .ge 25, 3) := by decide +kernel
theorem dX6_save_18 : decode cX6_save 18 = .ok (.aload_n 0, 1) := by decide +kernel
theorem dX6_save_19 : decode cX6_save 19 = .ok (.getfield 13, 3) := by decide +kernel
theorem dX6_save_22 : decode cX6_save 22 = .ok (.iload_n 1, 1) := by decide +kernel
theorem dX6_save_23 : decode cX6_save 23 = .ok (.aload_n 0, 1) := by decide +kernel
theorem dX6_save_24 : decode cX6_save 24 = .ok (.getfield 13, 3) := by decide +kernel
theorem dX6_save_27 : decode cX6_save 27 = .ok (.iload_n 1, 1) := by decide +kernel
theorem dX6_save_28 : decode cX6_save 28 = .ok (.sipush 238, 3) := by decide +kernel
theorem dX6_save_31 : decode cX6_save 31 = .ok (.iadd, 1) := by decide +kernel
theorem dX6_save_32 : decode cX6_save 32 = .ok (.iaload, 1) := by decide +kernel
theorem dX6_save_33 : decode cX6_save 33 = .ok (.iastore, 1) := by decide +kernel
theorem dX6_save_34 : decode cX6_save 34 = .ok (.iinc 1 1, 3) := by decide +kernel
theorem dX6_save_37 : decode cX6_save 37 = .ok (.goto (-26), 3) := by decide +kernel
theorem dX6_save_40 : decode cX6_save 40 = .ok (.aload_n 0, 1) := by decide +kernel
theorem dX6_save_41 : decode cX6_save 41 = .ok (.dup, 1) := by decide +kernel
theorem dX6_save_42 : decode cX6_save 42 = .ok (.getfield 38, 3) := by decide +kernel
theorem dX6_save_45 : decode cX6_save 45 = .ok (.iconst 1, 1) := by decide +kernel
theorem dX6_save_46 : decode cX6_save 46 = .ok (.isub, 1) := by decide +kernel
theorem dX6_save_47 : decode cX6_save 47 = .ok (.putfield 38, 3) := by decide +kernel
theorem dX6_save_50 : decode cX6_save 50 = .ok (.iconst 0, 1) := by decide +kernel
theorem dX6_save_51 : decode cX6_save 51 = .ok (.istore_n 1, 1) := by decide +kernel
theorem dX6_save_52 : decode cX6_save 52 = .ok (.iload_n 1, 1) := by decide +kernel
theorem dX6_save_53 : decode cX6_save 53 = .ok (.sipush 238, 3) := by decide +kernel
theorem dX6_save_56 : decode cX6_save 56 = .ok (.if_icmp .ge 30, 3) := by decide +kernel
theorem dX6_save_59 : decode cX6_save 59 = .ok (.aload_n 0, 1) := by decide +kernel
theorem dX6_save_60 : decode cX6_save 60 = .ok (.getfield 13, 3) := by decide +kernel
theorem dX6_save_63 : decode cX6_save 63 = .ok (.sipush 238, 3) := by decide +kernel
theorem dX6_save_66 : decode cX6_save 66 = .ok (.aload_n 0, 1) := by decide +kernel
theorem dX6_save_67 : decode cX6_save 67 = .ok (.getfield 38, 3) := by decide +kernel
theorem dX6_save_70 : decode cX6_save 70 = .ok (.imul, 1) := by decide +kernel
theorem dX6_save_71 : decode cX6_save 71 = .ok (.iload_n 1, 1) := by decide +kernel
theorem dX6_save_72 : decode cX6_save 72 = .ok (.iadd, 1) := by decide +kernel
theorem dX6_save_73 : decode cX6_save 73 = .ok (.aload_n 0, 1) := by decide +kernel
theorem dX6_save_74 : decode cX6_save 74 = .ok (.getfield 7, 3) := by decide +kernel
theorem dX6_save_77 : decode cX6_save 77 = .ok (.iload_n 1, 1) := by decide +kernel
theorem dX6_save_78 : decode cX6_save 78 = .ok (.iaload, 1) := by decide +kernel
theorem dX6_save_79 : decode cX6_save 79 = .ok (.iastore, 1) := by decide +kernel
theorem dX6_save_80 : decode cX6_save 80 = .ok (.iinc 1 1, 3) := by decide +kernel
theorem dX6_save_83 : decode cX6_save 83 = .ok (.goto (-31), 3) := by decide +kernel
theorem dX6_save_86 : decode cX6_save 86 = .ok (.aload_n 0, 1) := by decide +kernel
theorem dX6_save_87 : decode cX6_save 87 = .ok (.dup, 1) := by decide +kernel
theorem dX6_save_88 : decode cX6_save 88 = .ok (.getfield 38, 3) := by decide +kernel
theorem dX6_save_91 : decode cX6_save 91 = .ok (.iconst 1, 1) := by decide +kernel
theorem dX6_save_92 : decode cX6_save 92 = .ok (.iadd, 1) := by decide +kernel
theorem dX6_save_93 : decode cX6_save 93 = .ok (.putfield 38, 3) := by decide +kernel
theorem dX6_save_96 : decode cX6_save 96 = .ok (.return_, 1) := by decide +kernel
theorem dX6_undo_0 : decode cX6_undo 0 = .ok (.aload_n 0, 1) := by decide +kernel
theorem dX6_undo_1 : decode cX6_undo 1 = .ok (.getfield 38, 3) := by decide +kernel
theorem dX6_undo_4 : decode cX6_undo 4 = .ok (.ifCond .ne 6, 3) := by decide +kernel
theorem dX6_undo_7 : decode cX6_undo 7 = .ok (.bipush (-2), 2) := by decide +kernel
theorem dX6_undo_9 : decode cX6_undo 9 = .ok (.ireturn, 1) := by decide +kernel
theorem dX6_undo_10 : decode cX6_undo 10 = .ok (.aload_n 0, 1) := by decide +kernel
theorem dX6_undo_11 : decode cX6_undo 11 = .ok (.dup, 1) := by decide +kernel
theorem dX6_undo_12 : decode cX6_undo 12 = .ok (.getfield 38, 3) := by decide +kernel
theorem dX6_undo_15 : decode cX6_undo 15 = .ok (.iconst 1, 1) := by decide +kernel
theorem dX6_undo_16 : decode cX6_undo 16 = .ok (.isub, 1) := by decide +kernel
theorem dX6_undo_17 : decode cX6_undo 17 = .ok (.putfield 38, 3) := by decide +kernel
theorem dX6_undo_20 : decode cX6_undo 20 = .ok (.iconst 0, 1) := by decide +kernel
theorem dX6_undo_21 : decode cX6_undo 21 = .ok (.istore_n 1, 1) := by decide +kernel
theorem dX6_undo_22 : decode cX6_undo 22 = .ok (.iload_n 1, 1) := by decide +kernel
theorem dX6_undo_23 : decode cX6_undo 23 = .ok (.sipush 238, 3) := by decide +kernel
theorem dX6_undo_26 : decode cX6_undo 26 = .ok (.if_icmp .ge 30, 3) := by decide +kernel
theorem dX6_undo_29 : decode cX6_undo 29 = .ok (.aload_n 0, 1) := by decide +kernel
theorem dX6_undo_30 : decode cX6_undo 30 = .ok (.getfield 7, 3) := by decide +kernel
theorem dX6_undo_33 : decode cX6_undo 33 = .ok (.iload_n 1, 1) := by decide +kernel
theorem dX6_undo_34 : decode cX6_undo 34 = .ok (.aload_n 0, 1) := by decide +kernel
theorem dX6_undo_35 : decode cX6_undo 35 = .ok (.getfield 13, 3) := by decide +kernel
theorem dX6_undo_38 : decode cX6_undo 38 = .ok (.sipush 238, 3) := by decide +kernel
theorem dX6_undo_41 : decode cX6_undo 41 = .ok (.aload_n 0, 1) := by decide +kernel
theorem dX6_undo_42 : decode cX6_undo 42 = .ok (.getfield 38, 3) := by decide +kernel
theorem dX6_undo_45 : decode cX6_undo 45 = .ok (.imul, 1) := by decide +kernel
theorem dX6_undo_46 : decode cX6_undo 46 = .ok (.iload_n 1, 1) := by decide +kernel
theorem dX6_undo_47 : decode cX6_undo 47 = .ok (.iadd, 1) := by decide +kernel
theorem dX6_undo_48 : decode cX6_undo 48 = .ok (.iaload, 1) := by decide +kernel
theorem dX6_undo_49 : decode cX6_undo 49 = .ok (.iastore, 1) := by decide +kernel
theorem dX6_undo_50 : decode cX6_undo 50 = .ok (.iinc 1 1, 3) := by decide +kernel
theorem dX6_undo_53 : decode cX6_undo 53 = .ok (.goto (-31), 3) := by decide +kernel
theorem dX6_undo_56 : decode cX6_undo 56 = .ok (.aload_n 0, 1) := by decide +kernel
theorem dX6_undo_57 : decode cX6_undo 57 = .ok (.getfield 38, 3) := by decide +kernel
theorem dX6_undo_60 : decode cX6_undo 60 = .ok (.ireturn, 1) := by decide +kernel
theorem dX6_isServer_0 : decode cX6_isServer 0 = .ok (.iload_n 1, 1) := by decide +kernel
theorem dX6_isServer_1 : decode cX6_isServer 1 = .ok (.iconst 0, 1) := by decide +kernel
theorem dX6_isServer_2 : decode cX6_isServer 2 = .ok (.aload_n 0, 1) := by decide +kernel
theorem dX6_isServer_3 : decode cX6_isServer 3 = .ok (.getfield 7, 3) := by decide +kernel
theorem dX6_isServer_6 : decode cX6_isServer 6 = .ok (.iconst 0, 1) := by decide +kernel
theorem dX6_isServer_7 : decode cX6_isServer 7 = .ok (.iaload, 1) := by decide +kernel
theorem dX6_isServer_8 : decode cX6_isServer 8 = .ok (.iconst 1, 1) := by decide +kernel
theorem dX6_isServer_9 : decode cX6_isServer 9 = .ok (.isub, 1) := by decide +kernel
theorem dX6_isServer_10 : decode cX6_isServer 10 = .ok (.invokestatic 42, 3) := by decide +kernel
theorem dX6_isServer_13 : decode cX6_isServer 13 = .ok (.ireturn, 1) := by decide +kernel
theorem dX6_areServers_0 : decode cX6_areServers 0 = .ok (.aload_n 0, 1) := by decide +kernel
theorem dX6_areServers_1 : decode cX6_areServers 1 = .ok (.iload_n 1, 1) := by decide +kernel
theorem dX6_areServers_2 : decode cX6_areServers 2 = .ok (.invokevirtual 46, 3) := by decide +kernel
theorem dX6_areServers_5 : decode cX6_areServers 5 = .ok (.ifCond .eq 15, 3) := by decide +kernel
theorem dX6_areServers_8 : decode cX6_areServers 8 = .ok (.aload_n 0, 1) := by decide +kernel
theorem dX6_areServers_9 : decode cX6_areServers 9 = .ok (.iload_n 2, 1) := by decide +kernel
theorem dX6_areServers_10 : decode cX6_areServers 10 = .ok (.invokevirtual 46, 3) := by decide +kernel
theorem dX6_areServers_13 : decode cX6_areServers 13 = .ok (.ifCond .eq 7, 3) := by decide +kernel
theorem dX6_areServers_16 : decode cX6_areServers 16 = .ok (.iconst 1, 1) := by decide +kernel
theorem dX6_areServers_17 : decode cX6_areServers 17 = .ok (.goto 4, 3) := by decide +kernel
theorem dX6_areServers_20 : decode cX6_areServers 20 = .ok (.iconst 0, 1) := by decide +kernel
theorem dX6_areServers_21 : decode cX6_areServers 21 = .ok (.ireturn, 1) := by decide +kernel
theorem dX6_isNick_0 : decode cX6_isNick 0 = .ok (.iload_n 0, 1) := by decide +kernel
theorem dX6_isNick_1 : decode cX6_isNick 1 = .ok (.iconst 0, 1) := by decide +kernel
theorem dX6_isNick_2 : decode cX6_isNick 2 = .ok (.bipush 9, 2) := by decide +kernel
theorem dX6_isNick_4 : decode cX6_isNick 4 = .ok (.invokestatic 42, 3) := by decide +kernel
theorem dX6_isNick_7 : decode cX6_isNick 7 = .ok (.ireturn, 1) := by decide +kernel
theorem dX6_isChannel_0 : decode cX6_isChannel 0 = .ok (.iload_n 0, 1) := by decide +kernel
theorem dX6_isChannel_1 : decode cX6_isChannel 1 = .ok (.iconst 0, 1) := by decide +kernel
theorem dX6_isChannel_2 : decode cX6_isChannel 2 = .ok (.iconst 3, 1) := by decide +kernel
theorem dX6_isChannel_3 : decode cX6_isChannel 3 = .ok (.invokestatic 42, 3) := by decide +kernel
theorem dX6_isChannel_6 : decode cX6_isChannel 6 = .ok (.ireturn, 1) := by decide +kernel
theorem dX6_network_0 : decode cX6_network 0 = .ok (.iconst 1, 1) := by decide +kernel
theorem dX6_network_1 : decode cX6_network 1 = .ok (.iload_n 1, 1) := by decide +kernel
theorem dX6_network_2 : decode cX6_network 2 = .ok (.ishl, 1) := by decide +kernel
theorem dX6_network_3 : decode cX6_network 3 = .ok (.istore_n 2, 1) := by decide +kernel
theorem dX6_network_4 : decode cX6_network 4 = .ok (.iconst 0, 1) := by decide +kernel
theorem dX6_network_5 : decode cX6_network 5 = .ok (.istore_n 3, 1) := by decide +kernel
theorem dX6_network_6 : decode cX6_network 6 = .ok (.iload_n 3, 1) := by decide +kernel
theorem dX6_network_7 : decode cX6_network 7 = .ok (.bipush 6, 2) := by decide +kernel
theorem dX6_network_9 : decode cX6_network 9 = .ok (.if_icmp .ge 54, 3) := by decide +kernel
theorem dX6_network_12 : decode cX6_network 12 = .ok (.iconst 0, 1) := by decide +kernel
theorem dX6_network_13 : decode cX6_network 13 = .ok (.istore 4, 2) := by decide +kernel
theorem dX6_network_15 : decode cX6_network 15 = .ok (.iload 4, 2) := by decide +kernel
theorem dX6_network_17 : decode cX6_network 17 = .ok (.aload_n 0, 1) := by decide +kernel
theorem dX6_network_18 : decode cX6_network 18 = .ok (.getfield 7, 3) := by decide +kernel
theorem dX6_network_21 : decode cX6_network 21 = .ok (.iconst 0, 1) := by decide +kernel
theorem dX6_network_22 : decode cX6_network 22 = .ok (.iaload, 1) := by decide +kernel
theorem dX6_network_23 : decode cX6_network 23 = .ok (.if_icmp .ge 34, 3) := by decide +kernel
theorem dX6_network_26 : decode cX6_network 26 = .ok (.iload_n 2, 1) := by decide +kernel
theorem dX6_network_27 : decode cX6_network 27 = .ok (.iload_n 2, 1) := by decide +kernel
theorem dX6_network_28 : decode cX6_network 28 = .ok (.iload 4, 2) := by decide +kernel
theorem dX6_network_30 : decode cX6_network 30 = .ok (.invokestatic 50, 3) := by decide +kernel
theorem dX6_network_33 : decode cX6_network 33 = .ok (.ifCond .eq 15, 3) := by decide +kernel
theorem dX6_network_36 : decode cX6_network 36 = .ok (.aload_n 0, 1) := by decide +kernel
theorem dX6_network_37 : decode cX6_network 37 = .ok (.getfield 7, 3) := by decide +kernel
theorem dX6_network_40 : decode cX6_network 40 = .ok (.iconst 4, 1) := by decide +kernel
theorem dX6_network_41 : decode cX6_network 41 = .ok (.iload 4, 2) := by decide +kernel
theorem dX6_network_43 : decode cX6_network 43 = .ok (.iadd, 1) := by decide +kernel
theorem dX6_network_44 : decode cX6_network 44 = .ok (.iaload, 1) := by decide +kernel
theorem dX6_network_45 : decode cX6_network 45 = .ok (.goto 4, 3) := by decide +kernel
theorem dX6_network_48 : decode cX6_network 48 = .ok (.iconst 0, 1) := by decide +kernel
theorem dX6_network_49 : decode cX6_network 49 = .ok (.ior, 1) := by decide +kernel
theorem dX6_network_50 : decode cX6_network 50 = .ok (.istore_n 2, 1) := by decide +kernel
theorem dX6_network_51 : decode cX6_network 51 = .ok (.iinc 4 1, 3) := by decide +kernel
theorem dX6_network_54 : decode cX6_network 54 = .ok (.goto (-39), 3) := by decide +kernel
theorem dX6_network_57 : decode cX6_network 57 = .ok (.iinc 3 1, 3) := by decide +kernel
theorem dX6_network_60 : decode cX6_network 60 = .ok (.goto (-54), 3) := by decide +kernel
theorem dX6_network_63 : decode cX6_network 63 = .ok (.iload_n 2, 1) := by decide +kernel
theorem dX6_network_64 : decode cX6_network 64 = .ok (.ireturn, 1) := by decide +kernel
theorem dX6_areConnected_0 : decode cX6_areConnected 0 = .ok (.aload_n 0, 1) := by decide +kernel
theorem dX6_areConnected_1 : decode cX6_areConnected 1 = .ok (.iload_n 1, 1) := by decide +kernel
theorem dX6_areConnected_2 : decode cX6_areConnected 2 = .ok (.invokevirtual 54, 3) := by decide +kernel
theorem dX6_areConnected_5 : decode cX6_areConnected 5 = .ok (.iload_n 2, 1) := by decide +kernel
theorem dX6_areConnected_6 : decode cX6_areConnected 6 = .ok (.invokestatic 50, 3) := by decide +kernel
theorem dX6_areConnected_9 : decode cX6_areConnected 9 = .ok (.ireturn, 1) := by decide +kernel
theorem dX6_areLinked_0 : decode cX6_areLinked 0 = .ok (.aload_n 0, 1) := by decide +kernel
theorem dX6_areLinked_1 : decode cX6_areLinked 1 = .ok (.getfield 7, 3) := by decide +kernel
theorem dX6_areLinked_4 : decode cX6_areLinked 4 = .ok (.iconst 4, 1) := by decide +kernel
theorem dX6_areLinked_5 : decode cX6_areLinked 5 = .ok (.iload_n 1, 1) := by decide +kernel
theorem dX6_areLinked_6 : decode cX6_areLinked 6 = .ok (.iadd, 1) := by decide +kernel
theorem dX6_areLinked_7 : decode cX6_areLinked 7 = .ok (.iaload, 1) := by decide +kernel
theorem dX6_areLinked_8 : decode cX6_areLinked 8 = .ok (.iload_n 2, 1) := by decide +kernel
theorem dX6_areLinked_9 : decode cX6_areLinked 9 = .ok (.invokestatic 50, 3) := by decide +kernel
theorem dX6_areLinked_12 : decode cX6_areLinked 12 = .ok (.ireturn, 1) := by decide +kernel
theorem dX6_setLink_0 : decode cX6_setLink 0 = .ok (.aload_n 0, 1) := by decide +kernel
theorem dX6_setLink_1 : decode cX6_setLink 1 = .ok (.getfield 7, 3) := by decide +kernel
theorem dX6_setLink_4 : decode cX6_setLink 4 = .ok (.iconst 4, 1) := by decide +kernel
theorem dX6_setLink_5 : decode cX6_setLink 5 = .ok (.iload_n 1, 1) := by decide +kernel
theorem dX6_setLink_6 : decode cX6_setLink 6 = .ok (.iadd, 1) := by decide +kernel
theorem dX6_setLink_7 : decode cX6_setLink 7 = .ok (.aload_n 0, 1) := by decide +kernel
theorem dX6_setLink_8 : decode cX6_setLink 8 = .ok (.getfield 7, 3) := by decide +kernel
theorem dX6_setLink_11 : decode cX6_setLink 11 = .ok (.iconst 4, 1) := by decide +kernel
theorem dX6_setLink_12 : decode cX6_setLink 12 = .ok (.iload_n 1, 1) := by decide +kernel
theorem dX6_setLink_13 : decode cX6_setLink 13 = .ok (.iadd, 1) := by decide +kernel
theorem dX6_setLink_14 : decode cX6_setLink 14 = .ok (.iaload, 1) := by decide +kernel
theorem dX6_setLink_15 : decode cX6_setLink 15 = .ok (.iconst 1, 1) := by decide +kernel
theorem dX6_setLink_16 : decode cX6_setLink 16 = .ok (.iload_n 2, 1) := by decide +kernel
theorem dX6_setLink_17 : decode cX6_setLink 17 = .ok (.ishl, 1) := by decide +kernel
theorem dX6_setLink_18 : decode cX6_setLink 18 = .ok (.iconst (-1), 1) := by decide +kernel
theorem dX6_setLink_19 : decode cX6_setLink 19 = .ok (.ixor, 1) := by decide +kernel
theorem dX6_setLink_20 : decode cX6_setLink 20 = .ok (.iand, 1) := by decide +kernel
theorem dX6_setLink_21 : decode cX6_setLink 21 = .ok (.iload_n 3, 1) := by decide +kernel
theorem dX6_setLink_22 : decode cX6_setLink 22 = .ok (.ifCond .eq 9, 3) := by decide +kernel
theorem dX6_setLink_25 : decode cX6_setLink 25 = .ok (.iconst 1, 1) := by decide +kernel
theorem dX6_setLink_26 : decode cX6_setLink 26 = .ok (.iload_n 2, 1) := by decide +kernel
theorem dX6_setLink_27 : decode cX6_setLink 27 = .ok (.ishl, 1) := by decide +kernel
theorem dX6_setLink_28 : decode cX6_setLink 28 = .ok (.goto 4, 3) := by decide +kernel
theorem dX6_setLink_31 : decode cX6_setLink 31 = .ok (.iconst 0, 1) := by decide +kernel
theorem dX6_setLink_32 : decode cX6_setLink 32 = .ok (.ior, 1) := by decide +kernel
theorem dX6_setLink_33 : decode cX6_setLink 33 = .ok (.iastore, 1) := by decide +kernel
theorem dX6_setLink_34 : decode cX6_setLink 34 = .ok (.aload_n 0, 1) := by decide +kernel
theorem dX6_setLink_35 : decode cX6_setLink 35 = .ok (.getfield 7, 3) := by decide +kernel
theorem dX6_setLink_38 : decode cX6_setLink 38 = .ok (.iconst 4, 1) := by decide +kernel
theorem dX6_setLink_39 : decode cX6_setLink 39 = .ok (.iload_n 2, 1) := by decide +kernel
theorem dX6_setLink_40 : decode cX6_setLink 40 = .ok (.iadd, 1) := by decide +kernel
theorem dX6_setLink_41 : decode cX6_setLink 41 = .ok (.aload_n 0, 1) := by decide +kernel
theorem dX6_setLink_42 : decode cX6_setLink 42 = .ok (.getfield 7, 3) := by decide +kernel
theorem dX6_setLink_45 : decode cX6_setLink 45 = .ok (.iconst 4, 1) := by decide +kernel
theorem dX6_setLink_46 : decode cX6_setLink 46 = .ok (.iload_n 2, 1) := by decide +kernel
theorem dX6_setLink_47 : decode cX6_setLink 47 = .ok (.iadd, 1) := by decide +kernel
theorem dX6_setLink_48 : decode cX6_setLink 48 = .ok (.iaload, 1) := by decide +kernel
theorem dX6_setLink_49 : decode cX6_setLink 49 = .ok (.iconst 1, 1) := by decide +kernel
theorem dX6_setLink_50 : decode cX6_setLink 50 = .ok (.iload_n 1, 1) := by decide +kernel
theorem dX6_setLink_51 : decode cX6_setLink 51 = .ok (.ishl, 1) := by decide +kernel
theorem dX6_setLink_52 : decode cX6_setLink 52 = .ok (.iconst (-1), 1) := by decide +kernel
theorem dX6_setLink_53 : decode cX6_setLink 53 = .ok (.ixor, 1) := by decide +kernel
theorem dX6_setLink_54 : decode cX6_setLink 54 = .ok (.iand, 1) := by decide +kernel
theorem dX6_setLink_55 : decode cX6_setLink 55 = .ok (.iload_n 3, 1) := by decide +kernel
theorem dX6_setLink_56 : decode cX6_setLink 56 = .ok (.ifCond .eq 9, 3) := by decide +kernel
theorem dX6_setLink_59 : decode cX6_setLink 59 = .ok (.iconst 1, 1) := by decide +kernel
theorem dX6_setLink_60 : decode cX6_setLink 60 = .ok (.iload_n 1, 1) := by decide +kernel
theorem dX6_setLink_61 : decode cX6_setLink 61 = .ok (.ishl, 1) := by decide +kernel
theorem dX6_setLink_62 : decode cX6_setLink 62 = .ok (.goto 4, 3) := by decide +kernel
theorem dX6_setLink_65 : decode cX6_setLink 65 = .ok (.iconst 0, 1) := by decide +kernel
theorem dX6_setLink_66 : decode cX6_setLink 66 = .ok (.ior, 1) := by decide +kernel
theorem dX6_setLink_67 : decode cX6_setLink 67 = .ok (.iastore, 1) := by decide +kernel
theorem dX6_setLink_68 : decode cX6_setLink 68 = .ok (.return_, 1) := by decide +kernel
theorem dX6_userCell_0 : decode cX6_userCell 0 = .ok (.bipush 10, 2) := by decide +kernel
theorem dX6_userCell_2 : decode cX6_userCell 2 = .ok (.iload_n 0, 1) := by decide +kernel
theorem dX6_userCell_3 : decode cX6_userCell 3 = .ok (.imul, 1) := by decide +kernel
theorem dX6_userCell_4 : decode cX6_userCell 4 = .ok (.iload_n 1, 1) := by decide +kernel
theorem dX6_userCell_5 : decode cX6_userCell 5 = .ok (.iadd, 1) := by decide +kernel
theorem dX6_userCell_6 : decode cX6_userCell 6 = .ok (.ireturn, 1) := by decide +kernel
theorem dX6_isUser_0 : decode cX6_isUser 0 = .ok (.aload_n 0, 1) := by decide +kernel
theorem dX6_isUser_1 : decode cX6_isUser 1 = .ok (.getfield 7, 3) := by decide +kernel
theorem dX6_isUser_4 : decode cX6_isUser 4 = .ok (.bipush 10, 2) := by decide +kernel
theorem dX6_isUser_6 : decode cX6_isUser 6 = .ok (.iload_n 1, 1) := by decide +kernel
theorem dX6_isUser_7 : decode cX6_isUser 7 = .ok (.iload_n 2, 1) := by decide +kernel
theorem dX6_isUser_8 : decode cX6_isUser 8 = .ok (.invokestatic 58, 3) := by decide +kernel
theorem dX6_isUser_11 : decode cX6_isUser 11 = .ok (.iadd, 1) := by decide +kernel
theorem dX6_isUser_12 : decode cX6_isUser 12 = .ok (.iaload, 1) := by decide +kernel
theorem dX6_isUser_13 : decode cX6_isUser 13 = .ok (.bipush (-9), 2) := by decide +kernel
theorem dX6_isUser_15 : decode cX6_isUser 15 = .ok (.if_icmp .eq 7, 3) := by decide +kernel
theorem dX6_isUser_18 : decode cX6_isUser 18 = .ok (.iconst 1, 1) := by decide +kernel
theorem dX6_isUser_19 : decode cX6_isUser 19 = .ok (.goto 4, 3) := by decide +kernel
theorem dX6_isUser_22 : decode cX6_isUser 22 = .ok (.iconst 0, 1) := by decide +kernel
theorem dX6_isUser_23 : decode cX6_isUser 23 = .ok (.ireturn, 1) := by decide +kernel
theorem dX6_homeIn_0 : decode cX6_homeIn 0 = .ok (.bipush (-9), 2) := by decide +kernel
theorem dX6_homeIn_2 : decode cX6_homeIn 2 = .ok (.istore_n 3, 1) := by decide +kernel
theorem dX6_homeIn_3 : decode cX6_homeIn 3 = .ok (.iconst 0, 1) := by decide +kernel
theorem dX6_homeIn_4 : decode cX6_homeIn 4 = .ok (.istore 4, 2) := by decide +kernel
theorem dX6_homeIn_6 : decode cX6_homeIn 6 = .ok (.iload 4, 2) := by decide +kernel
theorem dX6_homeIn_8 : decode cX6_homeIn 8 = .ok (.aload_n 0, 1) := by decide +kernel
theorem dX6_homeIn_9 : decode cX6_homeIn 9 = .ok (.getfield 7, 3) := by decide +kernel
theorem dX6_homeIn_12 : decode cX6_homeIn 12 = .ok (.iconst 0, 1) := by decide +kernel
theorem dX6_homeIn_13 : decode cX6_homeIn 13 = .ok (.iaload, 1) := by decide +kernel
theorem dX6_homeIn_14 : decode cX6_homeIn 14 = .ok (.if_icmp .ge 35, 3) := by decide +kernel
theorem dX6_homeIn_17 : decode cX6_homeIn 17 = .ok (.iload_n 1, 1) := by decide +kernel
theorem dX6_homeIn_18 : decode cX6_homeIn 18 = .ok (.iload 4, 2) := by decide +kernel
theorem dX6_homeIn_20 : decode cX6_homeIn 20 = .ok (.invokestatic 50, 3) := by decide +kernel
theorem dX6_homeIn_23 : decode cX6_homeIn 23 = .ok (.ifCond .eq 18, 3) := by decide +kernel
theorem dX6_homeIn_26 : decode cX6_homeIn 26 = .ok (.aload_n 0, 1) := by decide +kernel
theorem dX6_homeIn_27 : decode cX6_homeIn 27 = .ok (.iload 4, 2) := by decide +kernel
theorem dX6_homeIn_29 : decode cX6_homeIn 29 = .ok (.iload_n 2, 1) := by decide +kernel
theorem dX6_homeIn_30 : decode cX6_homeIn 30 = .ok (.invokevirtual 62, 3) := by decide +kernel
theorem dX6_homeIn_33 : decode cX6_homeIn 33 = .ok (.ifCond .eq 8, 3) := by decide +kernel
theorem dX6_homeIn_36 : decode cX6_homeIn 36 = .ok (.iload 4, 2) := by decide +kernel
theorem dX6_homeIn_38 : decode cX6_homeIn 38 = .ok (.goto 4, 3) := by decide +kernel
theorem dX6_homeIn_41 : decode cX6_homeIn 41 = .ok (.iload_n 3, 1) := by decide +kernel
theorem dX6_homeIn_42 : decode cX6_homeIn 42 = .ok (.istore_n 3, 1) := by decide +kernel
theorem dX6_homeIn_43 : decode cX6_homeIn 43 = .ok (.iinc 4 1, 3) := by decide +kernel
theorem dX6_homeIn_46 : decode cX6_homeIn 46 = .ok (.goto (-40), 3) := by decide +kernel
theorem dX6_homeIn_49 : decode cX6_homeIn 49 = .ok (.iload_n 3, 1) := by decide +kernel
theorem dX6_homeIn_50 : decode cX6_homeIn 50 = .ok (.ireturn, 1) := by decide +kernel
theorem dX6_nicksIn_0 : decode cX6_nicksIn 0 = .ok (.iconst 0, 1) := by decide +kernel
theorem dX6_nicksIn_1 : decode cX6_nicksIn 1 = .ok (.istore 4, 2) := by decide +kernel
theorem dX6_nicksIn_3 : decode cX6_nicksIn 3 = .ok (.iconst 0, 1) := by decide +kernel
theorem dX6_nicksIn_4 : decode cX6_nicksIn 4 = .ok (.istore 5, 2) := by decide +kernel
theorem dX6_nicksIn_6 : decode cX6_nicksIn 6 = .ok (.iload 5, 2) := by decide +kernel
theorem dX6_nicksIn_8 : decode cX6_nicksIn 8 = .ok (.aload_n 0, 1) := by decide +kernel
theorem dX6_nicksIn_9 : decode cX6_nicksIn 9 = .ok (.getfield 7, 3) := by decide +kernel
theorem dX6_nicksIn_12 : decode cX6_nicksIn 12 = .ok (.iconst 0, 1) := by decide +kernel
theorem dX6_nicksIn_13 : decode cX6_nicksIn 13 = .ok (.iaload, 1) := by decide +kernel
theorem dX6_nicksIn_14 : decode cX6_nicksIn 14 = .ok (.if_icmp .ge 105, 3) := by decide +kernel
theorem dX6_nicksIn_17 : decode cX6_nicksIn 17 = .ok (.iconst 0, 1) := by decide +kernel
theorem dX6_nicksIn_18 : decode cX6_nicksIn 18 = .ok (.istore 6, 2) := by decide +kernel
theorem dX6_nicksIn_20 : decode cX6_nicksIn 20 = .ok (.iload 6, 2) := by decide +kernel
theorem dX6_nicksIn_22 : decode cX6_nicksIn 22 = .ok (.bipush 10, 2) := by decide +kernel
theorem dX6_nicksIn_24 : decode cX6_nicksIn 24 = .ok (.if_icmp .ge 89, 3) := by decide +kernel
theorem dX6_nicksIn_27 : decode cX6_nicksIn 27 = .ok (.iload 5, 2) := by decide +kernel
theorem dX6_nicksIn_29 : decode cX6_nicksIn 29 = .ok (.iload 6, 2) := by decide +kernel
theorem dX6_nicksIn_31 : decode cX6_nicksIn 31 = .ok (.invokestatic 58, 3) := by decide +kernel
theorem dX6_nicksIn_34 : decode cX6_nicksIn 34 = .ok (.istore 7, 2) := by decide +kernel
theorem dX6_nicksIn_36 : decode cX6_nicksIn 36 = .ok (.iload_n 2, 1) := by decide +kernel
theorem dX6_nicksIn_37 : decode cX6_nicksIn 37 = .ok (.bipush 10, 2) := by decide +kernel
theorem dX6_nicksIn_39 : decode cX6_nicksIn 39 = .ok (.if_icmp .ne 26, 3) := by decide +kernel
theorem dX6_nicksIn_42 : decode cX6_nicksIn 42 = .ok (.aload_n 0, 1) := by decide +kernel
theorem dX6_nicksIn_43 : decode cX6_nicksIn 43 = .ok (.getfield 7, 3) := by decide +kernel
theorem dX6_nicksIn_46 : decode cX6_nicksIn 46 = .ok (.bipush 10, 2) := by decide +kernel
theorem dX6_nicksIn_48 : decode cX6_nicksIn 48 = .ok (.iload 7, 2) := by decide +kernel
theorem dX6_nicksIn_50 : decode cX6_nicksIn 50 = .ok (.iadd, 1) := by decide +kernel
theorem dX6_nicksIn_51 : decode cX6_nicksIn 51 = .ok (.iaload, 1) := by decide +kernel
theorem dX6_nicksIn_52 : decode cX6_nicksIn 52 = .ok (.bipush (-9), 2) := by decide +kernel
theorem dX6_nicksIn_54 : decode cX6_nicksIn 54 = .ok (.if_icmp .eq 7, 3) := by decide +kernel
theorem dX6_nicksIn_57 : decode cX6_nicksIn 57 = .ok (.iconst 1, 1) := by decide +kernel
theorem dX6_nicksIn_58 : decode cX6_nicksIn 58 = .ok (.goto 20, 3) := by decide +kernel
theorem dX6_nicksIn_61 : decode cX6_nicksIn 61 = .ok (.iconst 0, 1) := by decide +kernel
theorem dX6_nicksIn_62 : decode cX6_nicksIn 62 = .ok (.goto 16, 3) := by decide +kernel
theorem dX6_nicksIn_65 : decode cX6_nicksIn 65 = .ok (.aload_n 0, 1) := by decide +kernel
theorem dX6_nicksIn_66 : decode cX6_nicksIn 66 = .ok (.getfield 7, 3) := by decide +kernel
theorem dX6_nicksIn_69 : decode cX6_nicksIn 69 = .ok (.iload_n 2, 1) := by decide +kernel
theorem dX6_nicksIn_70 : decode cX6_nicksIn 70 = .ok (.iload 7, 2) := by decide +kernel
theorem dX6_nicksIn_72 : decode cX6_nicksIn 72 = .ok (.iadd, 1) := by decide +kernel
theorem dX6_nicksIn_73 : decode cX6_nicksIn 73 = .ok (.iaload, 1) := by decide +kernel
theorem dX6_nicksIn_74 : decode cX6_nicksIn 74 = .ok (.iload_n 3, 1) := by decide +kernel
theorem dX6_nicksIn_75 : decode cX6_nicksIn 75 = .ok (.invokestatic 50, 3) := by decide +kernel
theorem dX6_nicksIn_78 : decode cX6_nicksIn 78 = .ok (.istore 8, 2) := by decide +kernel
theorem dX6_nicksIn_80 : decode cX6_nicksIn 80 = .ok (.iload 4, 2) := by decide +kernel
theorem dX6_nicksIn_82 : decode cX6_nicksIn 82 = .ok (.iload_n 1, 1) := by decide +kernel
theorem dX6_nicksIn_83 : decode cX6_nicksIn 83 = .ok (.iload 5, 2) := by decide +kernel
theorem dX6_nicksIn_85 : decode cX6_nicksIn 85 = .ok (.invokestatic 50, 3) := by decide +kernel
theorem dX6_nicksIn_88 : decode cX6_nicksIn 88 = .ok (.ifCond .eq 15, 3) := by decide +kernel
theorem dX6_nicksIn_91 : decode cX6_nicksIn 91 = .ok (.iload 8, 2) := by decide +kernel
theorem dX6_nicksIn_93 : decode cX6_nicksIn 93 = .ok (.ifCond .eq 10, 3) := by decide +kernel
theorem dX6_nicksIn_96 : decode cX6_nicksIn 96 = .ok (.iconst 1, 1) := by decide +kernel
theorem dX6_nicksIn_97 : decode cX6_nicksIn 97 = .ok (.iload 6, 2) := by decide +kernel
theorem dX6_nicksIn_99 : decode cX6_nicksIn 99 = .ok (.ishl, 1) := by decide +kernel
theorem dX6_nicksIn_100 : decode cX6_nicksIn 100 = .ok (.goto 4, 3) := by decide +kernel
theorem dX6_nicksIn_103 : decode cX6_nicksIn 103 = .ok (.iconst 0, 1) := by decide +kernel
theorem dX6_nicksIn_104 : decode cX6_nicksIn 104 = .ok (.ior, 1) := by decide +kernel
theorem dX6_nicksIn_105 : decode cX6_nicksIn 105 = .ok (.istore 4, 2) := by decide +kernel
theorem dX6_nicksIn_107 : decode cX6_nicksIn 107 = .ok (.iinc 6 1, 3) := by decide +kernel
theorem dX6_nicksIn_110 : decode cX6_nicksIn 110 = .ok (.goto (-90), 3) := by decide +kernel
theorem dX6_nicksIn_113 : decode cX6_nicksIn 113 = .ok (.iinc 5 1, 3) := by decide +kernel
theorem dX6_nicksIn_116 : decode cX6_nicksIn 116 = .ok (.goto (-110), 3) := by decide +kernel
theorem dX6_nicksIn_119 : decode cX6_nicksIn 119 = .ok (.iload 4, 2) := by decide +kernel
theorem dX6_nicksIn_121 : decode cX6_nicksIn 121 = .ok (.ireturn, 1) := by decide +kernel
theorem dX6_membersIn_0 : decode cX6_membersIn 0 = .ok (.aload_n 0, 1) := by decide +kernel
theorem dX6_membersIn_1 : decode cX6_membersIn 1 = .ok (.iload_n 1, 1) := by decide +kernel
theorem dX6_membersIn_2 : decode cX6_membersIn 2 = .ok (.bipush 70, 2) := by decide +kernel
theorem dX6_membersIn_4 : decode cX6_membersIn 4 = .ok (.iload_n 2, 1) := by decide +kernel
theorem dX6_membersIn_5 : decode cX6_membersIn 5 = .ok (.invokevirtual 65, 3) := by decide +kernel
theorem dX6_membersIn_8 : decode cX6_membersIn 8 = .ok (.ireturn, 1) := by decide +kernel
theorem dX6_removeUser_0 : decode cX6_removeUser 0 = .ok (.iload_n 1, 1) := by decide +kernel
theorem dX6_removeUser_1 : decode cX6_removeUser 1 = .ok (.iload_n 2, 1) := by decide +kernel
theorem dX6_removeUser_2 : decode cX6_removeUser 2 = .ok (.invokestatic 58, 3) := by decide +kernel
theorem dX6_removeUser_5 : decode cX6_removeUser 5 = .ok (.istore_n 3, 1) := by decide +kernel
theorem dX6_removeUser_6 : decode cX6_removeUser 6 = .ok (.aload_n 0, 1) := by decide +kernel
theorem dX6_removeUser_7 : decode cX6_removeUser 7 = .ok (.getfield 7, 3) := by decide +kernel
theorem dX6_removeUser_10 : decode cX6_removeUser 10 = .ok (.bipush 10, 2) := by decide +kernel
theorem dX6_removeUser_12 : decode cX6_removeUser 12 = .ok (.iload_n 3, 1) := by decide +kernel
theorem dX6_removeUser_13 : decode cX6_removeUser 13 = .ok (.iadd, 1) := by decide +kernel
theorem dX6_removeUser_14 : decode cX6_removeUser 14 = .ok (.bipush (-9), 2) := by decide +kernel
theorem dX6_removeUser_16 : decode cX6_removeUser 16 = .ok (.iastore, 1) := by decide +kernel
theorem dX6_removeUser_17 : decode cX6_removeUser 17 = .ok (.aload_n 0, 1) := by decide +kernel
theorem dX6_removeUser_18 : decode cX6_removeUser 18 = .ok (.getfield 7, 3) := by decide +kernel
theorem dX6_removeUser_21 : decode cX6_removeUser 21 = .ok (.bipush 70, 2) := by decide +kernel
theorem dX6_removeUser_23 : decode cX6_removeUser 23 = .ok (.iload_n 3, 1) := by decide +kernel
theorem dX6_removeUser_24 : decode cX6_removeUser 24 = .ok (.iadd, 1) := by decide +kernel
theorem dX6_removeUser_25 : decode cX6_removeUser 25 = .ok (.iconst 0, 1) := by decide +kernel
theorem dX6_removeUser_26 : decode cX6_removeUser 26 = .ok (.iastore, 1) := by decide +kernel
theorem dX6_removeUser_27 : decode cX6_removeUser 27 = .ok (.aload_n 0, 1) := by decide +kernel
theorem dX6_removeUser_28 : decode cX6_removeUser 28 = .ok (.getfield 7, 3) := by decide +kernel
theorem dX6_removeUser_31 : decode cX6_removeUser 31 = .ok (.sipush 130, 3) := by decide +kernel
theorem dX6_removeUser_34 : decode cX6_removeUser 34 = .ok (.iload_n 3, 1) := by decide +kernel
theorem dX6_removeUser_35 : decode cX6_removeUser 35 = .ok (.iadd, 1) := by decide +kernel
theorem dX6_removeUser_36 : decode cX6_removeUser 36 = .ok (.iconst 0, 1) := by decide +kernel
theorem dX6_removeUser_37 : decode cX6_removeUser 37 = .ok (.iastore, 1) := by decide +kernel
theorem dX6_removeUser_38 : decode cX6_removeUser 38 = .ok (.return_, 1) := by decide +kernel
theorem dX6_createServers_0 : decode cX6_createServers 0 = .ok (.iload_n 1, 1) := by decide +kernel
theorem dX6_createServers_1 : decode cX6_createServers 1 = .ok (.iconst 1, 1) := by decide +kernel
theorem dX6_createServers_2 : decode cX6_createServers 2 = .ok (.bipush 6, 2) := by decide +kernel
theorem dX6_createServers_4 : decode cX6_createServers 4 = .ok (.invokestatic 42, 3) := by decide +kernel
theorem dX6_createServers_7 : decode cX6_createServers 7 = .ok (.ifCond .ne 5, 3) := by decide +kernel
theorem dX6_createServers_10 : decode cX6_createServers 10 = .ok (.iconst (-1), 1) := by decide +kernel
theorem dX6_createServers_11 : decode cX6_createServers 11 = .ok (.ireturn, 1) := by decide +kernel
theorem dX6_createServers_12 : decode cX6_createServers 12 = .ok (.aload_n 0, 1) := by decide +kernel
theorem dX6_createServers_13 : decode cX6_createServers 13 = .ok (.invokevirtual 69, 3) := by decide +kernel
theorem dX6_createServers_16 : decode cX6_createServers 16 = .ok (.iconst 0, 1) := by decide +kernel
theorem dX6_createServers_17 : decode cX6_createServers 17 = .ok (.istore_n 2, 1) := by decide +kernel
theorem dX6_createServers_18 : decode cX6_createServers 18 = .ok (.bipush 10, 2) := by decide +kernel
theorem dX6_createServers_20 : decode cX6_createServers 20 = .ok (.istore_n 3, 1) := by decide +kernel
theorem dX6_createServers_21 : decode cX6_createServers 21 = .ok (.iload_n 3, 1) := by decide +kernel
theorem dX6_createServers_22 : decode cX6_createServers 22 = .ok (.bipush 70, 2) := by decide +kernel
theorem dX6_createServers_24 : decode cX6_createServers 24 = .ok (.if_icmp .ge 28, 3) := by decide +kernel
theorem dX6_createServers_27 : decode cX6_createServers 27 = .ok (.iload_n 2, 1) := by decide +kernel
theorem dX6_createServers_28 : decode cX6_createServers 28 = .ok (.aload_n 0, 1) := by decide +kernel
theorem dX6_createServers_29 : decode cX6_createServers 29 = .ok (.getfield 7, 3) := by decide +kernel
theorem dX6_createServers_32 : decode cX6_createServers 32 = .ok (.iload_n 3, 1) := by decide +kernel
theorem dX6_createServers_33 : decode cX6_createServers 33 = .ok (.iaload, 1) := by decide +kernel
theorem dX6_createServers_34 : decode cX6_createServers 34 = .ok (.bipush (-9), 2) := by decide +kernel
theorem dX6_createServers_36 : decode cX6_createServers 36 = .ok (.if_icmp .ne 7, 3) := by decide +kernel
theorem dX6_createServers_39 : decode cX6_createServers 39 = .ok (.iconst 0, 1) := by decide +kernel
theorem dX6_createServers_40 : decode cX6_createServers 40 = .ok (.goto 4, 3) := by decide +kernel
theorem dX6_createServers_43 : decode cX6_createServers 43 = .ok (.iconst 1, 1) := by decide +kernel
theorem dX6_createServers_44 : decode cX6_createServers 44 = .ok (.iadd, 1) := by decide +kernel
theorem dX6_createServers_45 : decode cX6_createServers 45 = .ok (.istore_n 2, 1) := by decide +kernel
theorem dX6_createServers_46 : decode cX6_createServers 46 = .ok (.iinc 3 1, 3) := by decide +kernel
theorem dX6_createServers_49 : decode cX6_createServers 49 = .ok (.goto (-28), 3) := by decide +kernel
theorem dX6_createServers_52 : decode cX6_createServers 52 = .ok (.aload_n 0, 1) := by decide +kernel
theorem dX6_createServers_53 : decode cX6_createServers 53 = .ok (.iload_n 1, 1) := by decide +kernel
theorem dX6_createServers_54 : decode cX6_createServers 54 = .ok (.invokevirtual 34, 3) := by decide +kernel
theorem dX6_createServers_57 : decode cX6_createServers 57 = .ok (.iload_n 2, 1) := by decide +kernel
theorem dX6_createServers_58 : decode cX6_createServers 58 = .ok (.ireturn, 1) := by decide +kernel
theorem dX6_setChannel_0 : decode cX6_setChannel 0 = .ok (.iconst 0, 1) := by decide +kernel
theorem dX6_setChannel_1 : decode cX6_setChannel 1 = .ok (.istore 5, 2) := by decide +kernel
theorem dX6_setChannel_3 : decode cX6_setChannel 3 = .ok (.iload 5, 2) := by decide +kernel
theorem dX6_setChannel_5 : decode cX6_setChannel 5 = .ok (.aload_n 0, 1) := by decide +kernel
theorem dX6_setChannel_6 : decode cX6_setChannel 6 = .ok (.getfield 7, 3) := by decide +kernel
theorem dX6_setChannel_9 : decode cX6_setChannel 9 = .ok (.iconst 0, 1) := by decide +kernel
theorem dX6_setChannel_10 : decode cX6_setChannel 10 = .ok (.iaload, 1) := by decide +kernel
theorem dX6_setChannel_11 : decode cX6_setChannel 11 = .ok (.if_icmp .ge 51, 3) := by decide +kernel
theorem dX6_setChannel_14 : decode cX6_setChannel 14 = .ok (.iload_n 1, 1) := by decide +kernel
theorem dX6_setChannel_15 : decode cX6_setChannel 15 = .ok (.iload 5, 2) := by decide +kernel
theorem dX6_setChannel_17 : decode cX6_setChannel 17 = .ok (.invokestatic 50, 3) := by decide +kernel
theorem dX6_setChannel_20 : decode cX6_setChannel 20 = .ok (.ifCond .eq 36, 3) := by decide +kernel
theorem dX6_setChannel_23 : decode cX6_setChannel 23 = .ok (.aload_n 0, 1) := by decide +kernel
theorem dX6_setChannel_24 : decode cX6_setChannel 24 = .ok (.getfield 7, 3) := by decide +kernel
theorem dX6_setChannel_27 : decode cX6_setChannel 27 = .ok (.sipush 190, 3) := by decide +kernel
theorem dX6_setChannel_30 : decode cX6_setChannel 30 = .ok (.iconst 4, 1) := by decide +kernel
theorem dX6_setChannel_31 : decode cX6_setChannel 31 = .ok (.iload 5, 2) := by decide +kernel
theorem dX6_setChannel_33 : decode cX6_setChannel 33 = .ok (.imul, 1) := by decide +kernel
theorem dX6_setChannel_34 : decode cX6_setChannel 34 = .ok (.iadd, 1) := by decide +kernel
theorem dX6_setChannel_35 : decode cX6_setChannel 35 = .ok (.iload_n 2, 1) := by decide +kernel
theorem dX6_setChannel_36 : decode cX6_setChannel 36 = .ok (.iadd, 1) := by decide +kernel
theorem dX6_setChannel_37 : decode cX6_setChannel 37 = .ok (.iload_n 3, 1) := by decide +kernel
theorem dX6_setChannel_38 : decode cX6_setChannel 38 = .ok (.iastore, 1) := by decide +kernel
theorem dX6_setChannel_39 : decode cX6_setChannel 39 = .ok (.aload_n 0, 1) := by decide +kernel
theorem dX6_setChannel_40 : decode cX6_setChannel 40 = .ok (.getfield 7, 3) := by decide +kernel
theorem dX6_setChannel_43 : decode cX6_setChannel 43 = .ok (.sipush 214, 3) := by decide +kernel
theorem dX6_setChannel_46 : decode cX6_setChannel 46 = .ok (.iconst 4, 1) := by decide +kernel
theorem dX6_setChannel_47 : decode cX6_setChannel 47 = .ok (.iload 5, 2) := by decide +kernel
theorem dX6_setChannel_49 : decode cX6_setChannel 49 = .ok (.imul, 1) := by decide +kernel
theorem dX6_setChannel_50 : decode cX6_setChannel 50 = .ok (.iadd, 1) := by decide +kernel
theorem dX6_setChannel_51 : decode cX6_setChannel 51 = .ok (.iload_n 2, 1) := by decide +kernel
theorem dX6_setChannel_52 : decode cX6_setChannel 52 = .ok (.iadd, 1) := by decide +kernel
theorem dX6_setChannel_53 : decode cX6_setChannel 53 = .ok (.iload 4, 2) := by decide +kernel
theorem dX6_setChannel_55 : decode cX6_setChannel 55 = .ok (.iastore, 1) := by decide +kernel
theorem dX6_setChannel_56 : decode cX6_setChannel 56 = .ok (.iinc 5 1, 3) := by decide +kernel
theorem dX6_setChannel_59 : decode cX6_setChannel 59 = .ok (.goto (-56), 3) := by decide +kernel
theorem dX6_setChannel_62 : decode cX6_setChannel 62 = .ok (.return_, 1) := by decide +kernel
theorem dX6_mergeNicks_0 : decode cX6_mergeNicks 0 = .ok (.iconst 0, 1) := by decide +kernel
theorem dX6_mergeNicks_1 : decode cX6_mergeNicks 1 = .ok (.istore_n 3, 1) := by decide +kernel
theorem dX6_mergeNicks_2 : decode cX6_mergeNicks 2 = .ok (.iconst 0, 1) := by decide +kernel
theorem dX6_mergeNicks_3 : decode cX6_mergeNicks 3 = .ok (.istore 4, 2) := by decide +kernel
theorem dX6_mergeNicks_5 : decode cX6_mergeNicks 5 = .ok (.iload 4, 2) := by decide +kernel
theorem dX6_mergeNicks_7 : decode cX6_mergeNicks 7 = .ok (.bipush 10, 2) := by decide +kernel
theorem dX6_mergeNicks_9 : decode cX6_mergeNicks 9 = .ok (.if_icmp .ge 111, 3) := by decide +kernel
theorem dX6_mergeNicks_12 : decode cX6_mergeNicks 12 = .ok (.aload_n 0, 1) := by decide +kernel
theorem dX6_mergeNicks_13 : decode cX6_mergeNicks 13 = .ok (.iload_n 1, 1) := by decide +kernel
theorem dX6_mergeNicks_14 : decode cX6_mergeNicks 14 = .ok (.iload 4, 2) := by decide +kernel
theorem dX6_mergeNicks_16 : decode cX6_mergeNicks 16 = .ok (.invokevirtual 72, 3) := by decide +kernel
theorem dX6_mergeNicks_19 : decode cX6_mergeNicks 19 = .ok (.istore 5, 2) := by decide +kernel
theorem dX6_mergeNicks_21 : decode cX6_mergeNicks 21 = .ok (.aload_n 0, 1) := by decide +kernel
theorem dX6_mergeNicks_22 : decode cX6_mergeNicks 22 = .ok (.iload_n 2, 1) := by decide +kernel
theorem dX6_mergeNicks_23 : decode cX6_mergeNicks 23 = .ok (.iload 4, 2) := by decide +kernel
theorem dX6_mergeNicks_25 : decode cX6_mergeNicks 25 = .ok (.invokevirtual 72, 3) := by decide +kernel
theorem dX6_mergeNicks_28 : decode cX6_mergeNicks 28 = .ok (.istore 6, 2) := by decide +kernel
theorem dX6_mergeNicks_30 : decode cX6_mergeNicks 30 = .ok (.iload 5, 2) := by decide +kernel
theorem dX6_mergeNicks_32 : decode cX6_mergeNicks 32 = .ok (.bipush (-9), 2) := by decide +kernel
theorem dX6_mergeNicks_34 : decode cX6_mergeNicks 34 = .ok (.if_icmp .eq 80, 3) := by decide +kernel
theorem dX6_mergeNicks_37 : decode cX6_mergeNicks 37 = .ok (.iload 6, 2) := by decide +kernel
theorem dX6_mergeNicks_39 : decode cX6_mergeNicks 39 = .ok (.bipush (-9), 2) := by decide +kernel
theorem dX6_mergeNicks_41 : decode cX6_mergeNicks 41 = .ok (.if_icmp .eq 73, 3) := by decide +kernel
theorem dX6_mergeNicks_44 : decode cX6_mergeNicks 44 = .ok (.aload_n 0, 1) := by decide +kernel
theorem dX6_mergeNicks_45 : decode cX6_mergeNicks 45 = .ok (.getfield 7, 3) := by decide +kernel
theorem dX6_mergeNicks_48 : decode cX6_mergeNicks 48 = .ok (.bipush 10, 2) := by decide +kernel
theorem dX6_mergeNicks_50 : decode cX6_mergeNicks 50 = .ok (.iload 5, 2) := by decide +kernel
theorem dX6_mergeNicks_52 : decode cX6_mergeNicks 52 = .ok (.iload 4, 2) := by decide +kernel
theorem dX6_mergeNicks_54 : decode cX6_mergeNicks 54 = .ok (.invokestatic 58, 3) := by decide +kernel
theorem dX6_mergeNicks_57 : decode cX6_mergeNicks 57 = .ok (.iadd, 1) := by decide +kernel
theorem dX6_mergeNicks_58 : decode cX6_mergeNicks 58 = .ok (.iaload, 1) := by decide +kernel
theorem dX6_mergeNicks_59 : decode cX6_mergeNicks 59 = .ok (.istore 7, 2) := by decide +kernel
theorem dX6_mergeNicks_61 : decode cX6_mergeNicks 61 = .ok (.aload_n 0, 1) := by decide +kernel
theorem dX6_mergeNicks_62 : decode cX6_mergeNicks 62 = .ok (.getfield 7, 3) := by decide +kernel
theorem dX6_mergeNicks_65 : decode cX6_mergeNicks 65 = .ok (.bipush 10, 2) := by decide +kernel
theorem dX6_mergeNicks_67 : decode cX6_mergeNicks 67 = .ok (.iload 6, 2) := by decide +kernel
theorem dX6_mergeNicks_69 : decode cX6_mergeNicks 69 = .ok (.iload 4, 2) := by decide +kernel
theorem dX6_mergeNicks_71 : decode cX6_mergeNicks 71 = .ok (.invokestatic 58, 3) := by decide +kernel
theorem dX6_mergeNicks_74 : decode cX6_mergeNicks 74 = .ok (.iadd, 1) := by decide +kernel
theorem dX6_mergeNicks_75 : decode cX6_mergeNicks 75 = .ok (.iaload, 1) := by decide +kernel
theorem dX6_mergeNicks_76 : decode cX6_mergeNicks 76 = .ok (.istore 8, 2) := by decide +kernel
theorem dX6_mergeNicks_78 : decode cX6_mergeNicks 78 = .ok (.iload 7, 2) := by decide +kernel
theorem dX6_mergeNicks_80 : decode cX6_mergeNicks 80 = .ok (.iload 8, 2) := by decide +kernel
theorem dX6_mergeNicks_82 : decode cX6_mergeNicks 82 = .ok (.if_icmp .lt 14, 3) := by decide +kernel
theorem dX6_mergeNicks_85 : decode cX6_mergeNicks 85 = .ok (.aload_n 0, 1) := by decide +kernel
theorem dX6_mergeNicks_86 : decode cX6_mergeNicks 86 = .ok (.iload 5, 2) := by decide +kernel
theorem dX6_mergeNicks_88 : decode cX6_mergeNicks 88 = .ok (.iload 4, 2) := by decide +kernel
theorem dX6_mergeNicks_90 : decode cX6_mergeNicks 90 = .ok (.invokevirtual 75, 3) := by decide +kernel
theorem dX6_mergeNicks_93 : decode cX6_mergeNicks 93 = .ok (.iinc 3 1, 3) := by decide +kernel
theorem dX6_mergeNicks_96 : decode cX6_mergeNicks 96 = .ok (.iload 8, 2) := by decide +kernel
theorem dX6_mergeNicks_98 : decode cX6_mergeNicks 98 = .ok (.iload 7, 2) := by decide +kernel
theorem dX6_mergeNicks_100 : decode cX6_mergeNicks 100 = .ok (.if_icmp .lt 14, 3) := by decide +kernel
theorem dX6_mergeNicks_103 : decode cX6_mergeNicks 103 = .ok (.aload_n 0, 1) := by decide +kernel
theorem dX6_mergeNicks_104 : decode cX6_mergeNicks 104 = .ok (.iload 6, 2) := by decide +kernel
theorem dX6_mergeNicks_106 : decode cX6_mergeNicks 106 = .ok (.iload 4, 2) := by decide +kernel
theorem dX6_mergeNicks_108 : decode cX6_mergeNicks 108 = .ok (.invokevirtual 75, 3) := by decide +kernel
theorem dX6_mergeNicks_111 : decode cX6_mergeNicks 111 = .ok (.iinc 3 1, 3) := by decide +kernel
theorem dX6_mergeNicks_114 : decode cX6_mergeNicks 114 = .ok (.iinc 4 1, 3) := by decide +kernel
theorem dX6_mergeNicks_117 : decode cX6_mergeNicks 117 = .ok (.goto (-112), 3) := by decide +kernel
theorem dX6_mergeNicks_120 : decode cX6_mergeNicks 120 = .ok (.iload_n 3, 1) := by decide +kernel
theorem dX6_mergeNicks_121 : decode cX6_mergeNicks 121 = .ok (.ireturn, 1) := by decide +kernel
theorem dX6_depriveAll_0 : decode cX6_depriveAll 0 = .ok (.aload_n 0, 1) := by decide +kernel
theorem dX6_depriveAll_1 : decode cX6_depriveAll 1 = .ok (.getfield 7, 3) := by decide +kernel
theorem dX6_depriveAll_4 : decode cX6_depriveAll 4 = .ok (.iconst 2, 1) := by decide +kernel
theorem dX6_depriveAll_5 : decode cX6_depriveAll 5 = .ok (.dup2, 1) := by decide +kernel
theorem dX6_depriveAll_6 : decode cX6_depriveAll 6 = .ok (.iaload, 1) := by decide +kernel
theorem dX6_depriveAll_7 : decode cX6_depriveAll 7 = .ok (.aload_n 0, 1) := by decide +kernel
theorem dX6_depriveAll_8 : decode cX6_depriveAll 8 = .ok (.iload_n 1, 1) := by decide +kernel
theorem dX6_depriveAll_9 : decode cX6_depriveAll 9 = .ok (.sipush 130, 3) := by decide +kernel
theorem dX6_depriveAll_12 : decode cX6_depriveAll 12 = .ok (.iload_n 2, 1) := by decide +kernel
theorem dX6_depriveAll_13 : decode cX6_depriveAll 13 = .ok (.invokevirtual 65, 3) := by decide +kernel
theorem dX6_depriveAll_16 : decode cX6_depriveAll 16 = .ok (.invokestatic 79, 3) := by decide +kernel
theorem dX6_depriveAll_19 : decode cX6_depriveAll 19 = .ok (.iadd, 1) := by decide +kernel
theorem dX6_depriveAll_20 : decode cX6_depriveAll 20 = .ok (.iastore, 1) := by decide +kernel
theorem dX6_depriveAll_21 : decode cX6_depriveAll 21 = .ok (.iconst 0, 1) := by decide +kernel
theorem dX6_depriveAll_22 : decode cX6_depriveAll 22 = .ok (.istore_n 3, 1) := by decide +kernel
theorem dX6_depriveAll_23 : decode cX6_depriveAll 23 = .ok (.iload_n 3, 1) := by decide +kernel
theorem dX6_depriveAll_24 : decode cX6_depriveAll 24 = .ok (.aload_n 0, 1) := by decide +kernel
theorem dX6_depriveAll_25 : decode cX6_depriveAll 25 = .ok (.getfield 7, 3) := by decide +kernel
theorem dX6_depriveAll_28 : decode cX6_depriveAll 28 = .ok (.iconst 0, 1) := by decide +kernel
theorem dX6_depriveAll_29 : decode cX6_depriveAll 29 = .ok (.iaload, 1) := by decide +kernel
theorem dX6_depriveAll_30 : decode cX6_depriveAll 30 = .ok (.if_icmp .ge 60, 3) := by decide +kernel
theorem dX6_depriveAll_33 : decode cX6_depriveAll 33 = .ok (.iconst 0, 1) := by decide +kernel
theorem dX6_depriveAll_34 : decode cX6_depriveAll 34 = .ok (.istore 4, 2) := by decide +kernel
theorem dX6_depriveAll_36 : decode cX6_depriveAll 36 = .ok (.iload 4, 2) := by decide +kernel
theorem dX6_depriveAll_38 : decode cX6_depriveAll 38 = .ok (.bipush 10, 2) := by decide +kernel
theorem dX6_depriveAll_40 : decode cX6_depriveAll 40 = .ok (.if_icmp .ge 44, 3) := by decide +kernel
theorem dX6_depriveAll_43 : decode cX6_depriveAll 43 = .ok (.aload_n 0, 1) := by decide +kernel
theorem dX6_depriveAll_44 : decode cX6_depriveAll 44 = .ok (.getfield 7, 3) := by decide +kernel
theorem dX6_depriveAll_47 : decode cX6_depriveAll 47 = .ok (.sipush 130, 3) := by decide +kernel
theorem dX6_depriveAll_50 : decode cX6_depriveAll 50 = .ok (.iload_n 3, 1) := by decide +kernel
theorem dX6_depriveAll_51 : decode cX6_depriveAll 51 = .ok (.iload 4, 2) := by decide +kernel
theorem dX6_depriveAll_53 : decode cX6_depriveAll 53 = .ok (.invokestatic 58, 3) := by decide +kernel
theorem dX6_depriveAll_56 : decode cX6_depriveAll 56 = .ok (.iadd, 1) := by decide +kernel
theorem dX6_depriveAll_57 : decode cX6_depriveAll 57 = .ok (.dup2, 1) := by decide +kernel
theorem dX6_depriveAll_58 : decode cX6_depriveAll 58 = .ok (.iaload, 1) := by decide +kernel
theorem dX6_depriveAll_59 : decode cX6_depriveAll 59 = .ok (.iload_n 1, 1) := by decide +kernel
theorem dX6_depriveAll_60 : decode cX6_depriveAll 60 = .ok (.iload_n 3, 1) := by decide +kernel
theorem dX6_depriveAll_61 : decode cX6_depriveAll 61 = .ok (.invokestatic 50, 3) := by decide +kernel
theorem dX6_depriveAll_64 : decode cX6_depriveAll 64 = .ok (.ifCond .eq 11, 3) := by decide +kernel
theorem dX6_depriveAll_67 : decode cX6_depriveAll 67 = .ok (.iconst 1, 1) := by decide +kernel
theorem dX6_depriveAll_68 : decode cX6_depriveAll 68 = .ok (.iload_n 2, 1) := by decide +kernel
theorem dX6_depriveAll_69 : decode cX6_depriveAll 69 = .ok (.ishl, 1) := by decide +kernel
theorem dX6_depriveAll_70 : decode cX6_depriveAll 70 = .ok (.iconst (-1), 1) := by decide +kernel
theorem dX6_depriveAll_71 : decode cX6_depriveAll 71 = .ok (.ixor, 1) := by decide +kernel
theorem dX6_depriveAll_72 : decode cX6_depriveAll 72 = .ok (.goto 4, 3) := by decide +kernel
theorem dX6_depriveAll_75 : decode cX6_depriveAll 75 = .ok (.iconst (-1), 1) := by decide +kernel
theorem dX6_depriveAll_76 : decode cX6_depriveAll 76 = .ok (.iand, 1) := by decide +kernel
theorem dX6_depriveAll_77 : decode cX6_depriveAll 77 = .ok (.iastore, 1) := by decide +kernel
theorem dX6_depriveAll_78 : decode cX6_depriveAll 78 = .ok (.iinc 4 1, 3) := by decide +kernel
theorem dX6_depriveAll_81 : decode cX6_depriveAll 81 = .ok (.goto (-45), 3) := by decide +kernel
theorem dX6_depriveAll_84 : decode cX6_depriveAll 84 = .ok (.iinc 3 1, 3) := by decide +kernel
theorem dX6_depriveAll_87 : decode cX6_depriveAll 87 = .ok (.goto (-64), 3) := by decide +kernel
theorem dX6_depriveAll_90 : decode cX6_depriveAll 90 = .ok (.return_, 1) := by decide +kernel
theorem dX6_mergeChannel_0 : decode cX6_mergeChannel 0 = .ok (.aload_n 0, 1) := by decide +kernel
theorem dX6_mergeChannel_1 : decode cX6_mergeChannel 1 = .ok (.iload_n 1, 1) := by decide +kernel
theorem dX6_mergeChannel_2 : decode cX6_mergeChannel 2 = .ok (.invokevirtual 54, 3) := by decide +kernel
theorem dX6_mergeChannel_5 : decode cX6_mergeChannel 5 = .ok (.istore 4, 2) := by decide +kernel
theorem dX6_mergeChannel_7 : decode cX6_mergeChannel 7 = .ok (.aload_n 0, 1) := by decide +kernel
theorem dX6_mergeChannel_8 : decode cX6_mergeChannel 8 = .ok (.iload_n 2, 1) := by decide +kernel
theorem dX6_mergeChannel_9 : decode cX6_mergeChannel 9 = .ok (.invokevirtual 54, 3) := by decide +kernel
theorem dX6_mergeChannel_12 : decode cX6_mergeChannel 12 = .ok (.istore 5, 2) := by decide +kernel
theorem dX6_mergeChannel_14 : decode cX6_mergeChannel 14 = .ok (.aload_n 0, 1) := by decide +kernel
theorem dX6_mergeChannel_15 : decode cX6_mergeChannel 15 = .ok (.iload 4, 2) := by decide +kernel
theorem dX6_mergeChannel_17 : decode cX6_mergeChannel 17 = .ok (.iload_n 3, 1) := by decide +kernel
theorem dX6_mergeChannel_18 : decode cX6_mergeChannel 18 = .ok (.invokevirtual 82, 3) := by decide +kernel
theorem dX6_mergeChannel_21 : decode cX6_mergeChannel 21 = .ok (.ifCond .eq 7, 3) := by decide +kernel
theorem dX6_mergeChannel_24 : decode cX6_mergeChannel 24 = .ok (.iconst 1, 1) := by decide +kernel
theorem dX6_mergeChannel_25 : decode cX6_mergeChannel 25 = .ok (.goto 4, 3) := by decide +kernel
theorem dX6_mergeChannel_28 : decode cX6_mergeChannel 28 = .ok (.iconst 0, 1) := by decide +kernel
theorem dX6_mergeChannel_29 : decode cX6_mergeChannel 29 = .ok (.istore 6, 2) := by decide +kernel
theorem dX6_mergeChannel_31 : decode cX6_mergeChannel 31 = .ok (.aload_n 0, 1) := by decide +kernel
theorem dX6_mergeChannel_32 : decode cX6_mergeChannel 32 = .ok (.iload 5, 2) := by decide +kernel
theorem dX6_mergeChannel_34 : decode cX6_mergeChannel 34 = .ok (.iload_n 3, 1) := by decide +kernel
theorem dX6_mergeChannel_35 : decode cX6_mergeChannel 35 = .ok (.invokevirtual 82, 3) := by decide +kernel
theorem dX6_mergeChannel_38 : decode cX6_mergeChannel 38 = .ok (.ifCond .eq 7, 3) := by decide +kernel
theorem dX6_mergeChannel_41 : decode cX6_mergeChannel 41 = .ok (.iconst 1, 1) := by decide +kernel
theorem dX6_mergeChannel_42 : decode cX6_mergeChannel 42 = .ok (.goto 4, 3) := by decide +kernel
theorem dX6_mergeChannel_45 : decode cX6_mergeChannel 45 = .ok (.iconst 0, 1) := by decide +kernel
theorem dX6_mergeChannel_46 : decode cX6_mergeChannel 46 = .ok (.istore 7, 2) := by decide +kernel
theorem dX6_mergeChannel_48 : decode cX6_mergeChannel 48 = .ok (.aload_n 0, 1) := by decide +kernel
theorem dX6_mergeChannel_49 : decode cX6_mergeChannel 49 = .ok (.getfield 7, 3) := by decide +kernel
theorem dX6_mergeChannel_52 : decode cX6_mergeChannel 52 = .ok (.sipush 190, 3) := by decide +kernel
theorem dX6_mergeChannel_55 : decode cX6_mergeChannel 55 = .ok (.iconst 4, 1) := by decide +kernel
theorem dX6_mergeChannel_56 : decode cX6_mergeChannel 56 = .ok (.iload_n 1, 1) := by decide +kernel
theorem dX6_mergeChannel_57 : decode cX6_mergeChannel 57 = .ok (.imul, 1) := by decide +kernel
theorem dX6_mergeChannel_58 : decode cX6_mergeChannel 58 = .ok (.iadd, 1) := by decide +kernel
theorem dX6_mergeChannel_59 : decode cX6_mergeChannel 59 = .ok (.iload_n 3, 1) := by decide +kernel
theorem dX6_mergeChannel_60 : decode cX6_mergeChannel 60 = .ok (.iadd, 1) := by decide +kernel
theorem dX6_mergeChannel_61 : decode cX6_mergeChannel 61 = .ok (.iaload, 1) := by decide +kernel
theorem dX6_mergeChannel_62 : decode cX6_mergeChannel 62 = .ok (.istore 8, 2) := by decide +kernel
theorem dX6_mergeChannel_64 : decode cX6_mergeChannel 64 = .ok (.aload_n 0, 1) := by decide +kernel
theorem dX6_mergeChannel_65 : decode cX6_mergeChannel 65 = .ok (.getfield 7, 3) := by decide +kernel
theorem dX6_mergeChannel_68 : decode cX6_mergeChannel 68 = .ok (.sipush 190, 3) := by decide +kernel
theorem dX6_mergeChannel_71 : decode cX6_mergeChannel 71 = .ok (.iconst 4, 1) := by decide +kernel
theorem dX6_mergeChannel_72 : decode cX6_mergeChannel 72 = .ok (.iload_n 2, 1) := by decide +kernel
theorem dX6_mergeChannel_73 : decode cX6_mergeChannel 73 = .ok (.imul, 1) := by decide +kernel
theorem dX6_mergeChannel_74 : decode cX6_mergeChannel 74 = .ok (.iadd, 1) := by decide +kernel
theorem dX6_mergeChannel_75 : decode cX6_mergeChannel 75 = .ok (.iload_n 3, 1) := by decide +kernel
theorem dX6_mergeChannel_76 : decode cX6_mergeChannel 76 = .ok (.iadd, 1) := by decide +kernel
theorem dX6_mergeChannel_77 : decode cX6_mergeChannel 77 = .ok (.iaload, 1) := by decide +kernel
theorem dX6_mergeChannel_78 : decode cX6_mergeChannel 78 = .ok (.istore 9, 2) := by decide +kernel
theorem dX6_mergeChannel_80 : decode cX6_mergeChannel 80 = .ok (.aload_n 0, 1) := by decide +kernel
theorem dX6_mergeChannel_81 : decode cX6_mergeChannel 81 = .ok (.getfield 7, 3) := by decide +kernel
theorem dX6_mergeChannel_84 : decode cX6_mergeChannel 84 = .ok (.sipush 214, 3) := by decide +kernel
theorem dX6_mergeChannel_87 : decode cX6_mergeChannel 87 = .ok (.iconst 4, 1) := by decide +kernel
theorem dX6_mergeChannel_88 : decode cX6_mergeChannel 88 = .ok (.iload_n 1, 1) := by decide +kernel
theorem dX6_mergeChannel_89 : decode cX6_mergeChannel 89 = .ok (.imul, 1) := by decide +kernel
theorem dX6_mergeChannel_90 : decode cX6_mergeChannel 90 = .ok (.iadd, 1) := by decide +kernel
theorem dX6_mergeChannel_91 : decode cX6_mergeChannel 91 = .ok (.iload_n 3, 1) := by decide +kernel
theorem dX6_mergeChannel_92 : decode cX6_mergeChannel 92 = .ok (.iadd, 1) := by decide +kernel
theorem dX6_mergeChannel_93 : decode cX6_mergeChannel 93 = .ok (.iaload, 1) := by decide +kernel
theorem dX6_mergeChannel_94 : decode cX6_mergeChannel 94 = .ok (.istore 10, 2) := by decide +kernel
theorem dX6_mergeChannel_96 : decode cX6_mergeChannel 96 = .ok (.aload_n 0, 1) := by decide +kernel
theorem dX6_mergeChannel_97 : decode cX6_mergeChannel 97 = .ok (.getfield 7, 3) := by decide +kernel
theorem dX6_mergeChannel_100 : decode cX6_mergeChannel 100 = .ok (.sipush 214, 3) := by decide +kernel
theorem dX6_mergeChannel_103 : decode cX6_mergeChannel 103 = .ok (.iconst 4, 1) := by decide +kernel
theorem dX6_mergeChannel_104 : decode cX6_mergeChannel 104 = .ok (.iload_n 2, 1) := by decide +kernel
theorem dX6_mergeChannel_105 : decode cX6_mergeChannel 105 = .ok (.imul, 1) := by decide +kernel
theorem dX6_mergeChannel_106 : decode cX6_mergeChannel 106 = .ok (.iadd, 1) := by decide +kernel
theorem dX6_mergeChannel_107 : decode cX6_mergeChannel 107 = .ok (.iload_n 3, 1) := by decide +kernel
theorem dX6_mergeChannel_108 : decode cX6_mergeChannel 108 = .ok (.iadd, 1) := by decide +kernel
theorem dX6_mergeChannel_109 : decode cX6_mergeChannel 109 = .ok (.iaload, 1) := by decide +kernel
theorem dX6_mergeChannel_110 : decode cX6_mergeChannel 110 = .ok (.istore 11, 2) := by decide +kernel
theorem dX6_mergeChannel_112 : decode cX6_mergeChannel 112 = .ok (.iload 6, 2) := by decide +kernel
theorem dX6_mergeChannel_114 : decode cX6_mergeChannel 114 = .ok (.ifCond .eq 35, 3) := by decide +kernel
theorem dX6_mergeChannel_117 : decode cX6_mergeChannel 117 = .ok (.iload 7, 2) := by decide +kernel
theorem dX6_mergeChannel_119 : decode cX6_mergeChannel 119 = .ok (.ifCond .eq 30, 3) := by decide +kernel
theorem dX6_mergeChannel_122 : decode cX6_mergeChannel 122 = .ok (.iload 8, 2) := by decide +kernel
theorem dX6_mergeChannel_124 : decode cX6_mergeChannel 124 = .ok (.iload 9, 2) := by decide +kernel
theorem dX6_mergeChannel_126 : decode cX6_mergeChannel 126 = .ok (.if_icmp .ne 23, 3) := by decide +kernel
theorem dX6_mergeChannel_129 : decode cX6_mergeChannel 129 = .ok (.aload_n 0, 1) := by decide +kernel
theorem dX6_mergeChannel_130 : decode cX6_mergeChannel 130 = .ok (.iload 4, 2) := by decide +kernel
theorem dX6_mergeChannel_132 : decode cX6_mergeChannel 132 = .ok (.iload 5, 2) := by decide +kernel
theorem dX6_mergeChannel_134 : decode cX6_mergeChannel 134 = .ok (.ior, 1) := by decide +kernel
theorem dX6_mergeChannel_135 : decode cX6_mergeChannel 135 = .ok (.iload_n 3, 1) := by decide +kernel
theorem dX6_mergeChannel_136 : decode cX6_mergeChannel 136 = .ok (.iload 8, 2) := by decide +kernel
theorem dX6_mergeChannel_138 : decode cX6_mergeChannel 138 = .ok (.iload 10, 2) := by decide +kernel
theorem dX6_mergeChannel_140 : decode cX6_mergeChannel 140 = .ok (.iload 11, 2) := by decide +kernel
theorem dX6_mergeChannel_142 : decode cX6_mergeChannel 142 = .ok (.ior, 1) := by decide +kernel
theorem dX6_mergeChannel_143 : decode cX6_mergeChannel 143 = .ok (.invokevirtual 85, 3) := by decide +kernel
theorem dX6_mergeChannel_146 : decode cX6_mergeChannel 146 = .ok (.goto 108, 3) := by decide +kernel
theorem dX6_mergeChannel_149 : decode cX6_mergeChannel 149 = .ok (.iload 6, 2) := by decide +kernel
theorem dX6_mergeChannel_151 : decode cX6_mergeChannel 151 = .ok (.ifCond .eq 58, 3) := by decide +kernel
theorem dX6_mergeChannel_154 : decode cX6_mergeChannel 154 = .ok (.iload 7, 2) := by decide +kernel
theorem dX6_mergeChannel_156 : decode cX6_mergeChannel 156 = .ok (.ifCond .eq 10, 3) := by decide +kernel
theorem dX6_mergeChannel_159 : decode cX6_mergeChannel 159 = .ok (.iload 8, 2) := by decide +kernel
theorem dX6_mergeChannel_161 : decode cX6_mergeChannel 161 = .ok (.iload 9, 2) := by decide +kernel
theorem dX6_mergeChannel_163 : decode cX6_mergeChannel 163 = .ok (.if_icmp .ge 46, 3) := by decide +kernel
theorem dX6_mergeChannel_166 : decode cX6_mergeChannel 166 = .ok (.aload_n 0, 1) := by decide +kernel
theorem dX6_mergeChannel_167 : decode cX6_mergeChannel 167 = .ok (.iload 4, 2) := by decide +kernel
theorem dX6_mergeChannel_169 : decode cX6_mergeChannel 169 = .ok (.iload 5, 2) := by decide +kernel
theorem dX6_mergeChannel_171 : decode cX6_mergeChannel 171 = .ok (.ior, 1) := by decide +kernel
theorem dX6_mergeChannel_172 : decode cX6_mergeChannel 172 = .ok (.iload_n 3, 1) := by decide +kernel
theorem dX6_mergeChannel_173 : decode cX6_mergeChannel 173 = .ok (.iload 8, 2) := by decide +kernel
theorem dX6_mergeChannel_175 : decode cX6_mergeChannel 175 = .ok (.iload 10, 2) := by decide +kernel
theorem dX6_mergeChannel_177 : decode cX6_mergeChannel 177 = .ok (.invokevirtual 85, 3) := by decide +kernel
theorem dX6_mergeChannel_180 : decode cX6_mergeChannel 180 = .ok (.iload 7, 2) := by decide +kernel
theorem dX6_mergeChannel_182 : decode cX6_mergeChannel 182 = .ok (.ifCond .eq 72, 3) := by decide +kernel
theorem dX6_mergeChannel_185 : decode cX6_mergeChannel 185 = .ok (.aload_n 0, 1) := by decide +kernel
theorem dX6_mergeChannel_186 : decode cX6_mergeChannel 186 = .ok (.iload 5, 2) := by decide +kernel
theorem dX6_mergeChannel_188 : decode cX6_mergeChannel 188 = .ok (.iload_n 3, 1) := by decide +kernel
theorem dX6_mergeChannel_189 : decode cX6_mergeChannel 189 = .ok (.invokevirtual 89, 3) := by decide +kernel
theorem dX6_mergeChannel_192 : decode cX6_mergeChannel 192 = .ok (.aload_n 0, 1) := by decide +kernel
theorem dX6_mergeChannel_193 : decode cX6_mergeChannel 193 = .ok (.getfield 7, 3) := by decide +kernel
theorem dX6_mergeChannel_196 : decode cX6_mergeChannel 196 = .ok (.iconst 3, 1) := by decide +kernel
theorem dX6_mergeChannel_197 : decode cX6_mergeChannel 197 = .ok (.dup2, 1) := by decide +kernel
theorem dX6_mergeChannel_198 : decode cX6_mergeChannel 198 = .ok (.iaload, 1) := by decide +kernel
theorem dX6_mergeChannel_199 : decode cX6_mergeChannel 199 = .ok (.iload 11, 2) := by decide +kernel
theorem dX6_mergeChannel_201 : decode cX6_mergeChannel 201 = .ok (.invokestatic 79, 3) := by decide +kernel
theorem dX6_mergeChannel_204 : decode cX6_mergeChannel 204 = .ok (.iadd, 1) := by decide +kernel
theorem dX6_mergeChannel_205 : decode cX6_mergeChannel 205 = .ok (.iastore, 1) := by decide +kernel
theorem dX6_mergeChannel_206 : decode cX6_mergeChannel 206 = .ok (.goto 48, 3) := by decide +kernel
theorem dX6_mergeChannel_209 : decode cX6_mergeChannel 209 = .ok (.iload 7, 2) := by decide +kernel
theorem dX6_mergeChannel_211 : decode cX6_mergeChannel 211 = .ok (.ifCond .eq 43, 3) := by decide +kernel
theorem dX6_mergeChannel_214 : decode cX6_mergeChannel 214 = .ok (.aload_n 0, 1) := by decide +kernel
theorem dX6_mergeChannel_215 : decode cX6_mergeChannel 215 = .ok (.iload 4, 2) := by decide +kernel
theorem dX6_mergeChannel_217 : decode cX6_mergeChannel 217 = .ok (.iload 5, 2) := by decide +kernel
theorem dX6_mergeChannel_219 : decode cX6_mergeChannel 219 = .ok (.ior, 1) := by decide +kernel
theorem dX6_mergeChannel_220 : decode cX6_mergeChannel 220 = .ok (.iload_n 3, 1) := by decide +kernel
theorem dX6_mergeChannel_221 : decode cX6_mergeChannel 221 = .ok (.iload 9, 2) := by decide +kernel
theorem dX6_mergeChannel_223 : decode cX6_mergeChannel 223 = .ok (.iload 11, 2) := by decide +kernel
theorem dX6_mergeChannel_225 : decode cX6_mergeChannel 225 = .ok (.invokevirtual 85, 3) := by decide +kernel
theorem dX6_mergeChannel_228 : decode cX6_mergeChannel 228 = .ok (.iload 6, 2) := by decide +kernel
theorem dX6_mergeChannel_230 : decode cX6_mergeChannel 230 = .ok (.ifCond .eq 24, 3) := by decide +kernel
theorem dX6_mergeChannel_233 : decode cX6_mergeChannel 233 = .ok (.aload_n 0, 1) := by decide +kernel
theorem dX6_mergeChannel_234 : decode cX6_mergeChannel 234 = .ok (.iload 4, 2) := by decide +kernel
theorem dX6_mergeChannel_236 : decode cX6_mergeChannel 236 = .ok (.iload_n 3, 1) := by decide +kernel
theorem dX6_mergeChannel_237 : decode cX6_mergeChannel 237 = .ok (.invokevirtual 89, 3) := by decide +kernel
theorem dX6_mergeChannel_240 : decode cX6_mergeChannel 240 = .ok (.aload_n 0, 1) := by decide +kernel
theorem dX6_mergeChannel_241 : decode cX6_mergeChannel 241 = .ok (.getfield 7, 3) := by decide +kernel
theorem dX6_mergeChannel_244 : decode cX6_mergeChannel 244 = .ok (.iconst 3, 1) := by decide +kernel
theorem dX6_mergeChannel_245 : decode cX6_mergeChannel 245 = .ok (.dup2, 1) := by decide +kernel
theorem dX6_mergeChannel_246 : decode cX6_mergeChannel 246 = .ok (.iaload, 1) := by decide +kernel
theorem dX6_mergeChannel_247 : decode cX6_mergeChannel 247 = .ok (.iload 10, 2) := by decide +kernel
theorem dX6_mergeChannel_249 : decode cX6_mergeChannel 249 = .ok (.invokestatic 79, 3) := by decide +kernel
theorem dX6_mergeChannel_252 : decode cX6_mergeChannel 252 = .ok (.iadd, 1) := by decide +kernel
theorem dX6_mergeChannel_253 : decode cX6_mergeChannel 253 = .ok (.iastore, 1) := by decide +kernel
theorem dX6_mergeChannel_254 : decode cX6_mergeChannel 254 = .ok (.return_, 1) := by decide +kernel
theorem dX6_connect_0 : decode cX6_connect 0 = .ok (.aload_n 0, 1) := by decide +kernel
theorem dX6_connect_1 : decode cX6_connect 1 = .ok (.iload_n 1, 1) := by decide +kernel
theorem dX6_connect_2 : decode cX6_connect 2 = .ok (.iload_n 2, 1) := by decide +kernel
theorem dX6_connect_3 : decode cX6_connect 3 = .ok (.invokevirtual 92, 3) := by decide +kernel
theorem dX6_connect_6 : decode cX6_connect 6 = .ok (.ifCond .eq 8, 3) := by decide +kernel
theorem dX6_connect_9 : decode cX6_connect 9 = .ok (.iload_n 1, 1) := by decide +kernel
theorem dX6_connect_10 : decode cX6_connect 10 = .ok (.iload_n 2, 1) := by decide +kernel
theorem dX6_connect_11 : decode cX6_connect 11 = .ok (.if_icmp .ne 5, 3) := by decide +kernel
theorem dX6_connect_14 : decode cX6_connect 14 = .ok (.iconst (-1), 1) := by decide +kernel
theorem dX6_connect_15 : decode cX6_connect 15 = .ok (.ireturn, 1) := by decide +kernel
theorem dX6_connect_16 : decode cX6_connect 16 = .ok (.aload_n 0, 1) := by decide +kernel
theorem dX6_connect_17 : decode cX6_connect 17 = .ok (.iload_n 1, 1) := by decide +kernel
theorem dX6_connect_18 : decode cX6_connect 18 = .ok (.iload_n 2, 1) := by decide +kernel
theorem dX6_connect_19 : decode cX6_connect 19 = .ok (.invokevirtual 95, 3) := by decide +kernel
theorem dX6_connect_22 : decode cX6_connect 22 = .ok (.ifCond .eq 6, 3) := by decide +kernel
theorem dX6_connect_25 : decode cX6_connect 25 = .ok (.bipush (-2), 2) := by decide +kernel
theorem dX6_connect_27 : decode cX6_connect 27 = .ok (.ireturn, 1) := by decide +kernel
theorem dX6_connect_28 : decode cX6_connect 28 = .ok (.aload_n 0, 1) := by decide +kernel
theorem dX6_connect_29 : decode cX6_connect 29 = .ok (.invokevirtual 69, 3) := by decide +kernel
theorem dX6_connect_32 : decode cX6_connect 32 = .ok (.aload_n 0, 1) := by decide +kernel
theorem dX6_connect_33 : decode cX6_connect 33 = .ok (.getfield 7, 3) := by decide +kernel
theorem dX6_connect_36 : decode cX6_connect 36 = .ok (.iconst 2, 1) := by decide +kernel
theorem dX6_connect_37 : decode cX6_connect 37 = .ok (.iconst 0, 1) := by decide +kernel
theorem dX6_connect_38 : decode cX6_connect 38 = .ok (.iastore, 1) := by decide +kernel
theorem dX6_connect_39 : decode cX6_connect 39 = .ok (.aload_n 0, 1) := by decide +kernel
theorem dX6_connect_40 : decode cX6_connect 40 = .ok (.getfield 7, 3) := by decide +kernel
theorem dX6_connect_43 : decode cX6_connect 43 = .ok (.iconst 3, 1) := by decide +kernel
theorem dX6_connect_44 : decode cX6_connect 44 = .ok (.iconst 0, 1) := by decide +kernel
theorem dX6_connect_45 : decode cX6_connect 45 = .ok (.iastore, 1) := by decide +kernel
theorem dX6_connect_46 : decode cX6_connect 46 = .ok (.aload_n 0, 1) := by decide +kernel
theorem dX6_connect_47 : decode cX6_connect 47 = .ok (.aload_n 0, 1) := by decide +kernel
theorem dX6_connect_48 : decode cX6_connect 48 = .ok (.iload_n 1, 1) := by decide +kernel
theorem dX6_connect_49 : decode cX6_connect 49 = .ok (.invokevirtual 54, 3) := by decide +kernel
theorem dX6_connect_52 : decode cX6_connect 52 = .ok (.aload_n 0, 1) := by decide +kernel
theorem dX6_connect_53 : decode cX6_connect 53 = .ok (.iload_n 2, 1) := by decide +kernel
theorem dX6_connect_54 : decode cX6_connect 54 = .ok (.invokevirtual 54, 3) := by decide +kernel
theorem dX6_connect_57 : decode cX6_connect 57 = .ok (.invokevirtual 98, 3) := by decide +kernel
theorem dX6_connect_60 : decode cX6_connect 60 = .ok (.istore_n 3, 1) := by decide +kernel
theorem dX6_connect_61 : decode cX6_connect 61 = .ok (.iconst 0, 1) := by decide +kernel
theorem dX6_connect_62 : decode cX6_connect 62 = .ok (.istore 4, 2) := by decide +kernel
theorem dX6_connect_64 : decode cX6_connect 64 = .ok (.iload 4, 2) := by decide +kernel
theorem dX6_connect_66 : decode cX6_connect 66 = .ok (.iconst 4, 1) := by decide +kernel
theorem dX6_connect_67 : decode cX6_connect 67 = .ok (.if_icmp .ge 17, 3) := by decide +kernel
theorem dX6_connect_70 : decode cX6_connect 70 = .ok (.aload_n 0, 1) := by decide +kernel
theorem dX6_connect_71 : decode cX6_connect 71 = .ok (.iload_n 1, 1) := by decide +kernel
theorem dX6_connect_72 : decode cX6_connect 72 = .ok (.iload_n 2, 1) := by decide +kernel
theorem dX6_connect_73 : decode cX6_connect 73 = .ok (.iload 4, 2) := by decide +kernel
theorem dX6_connect_75 : decode cX6_connect 75 = .ok (.invokevirtual 101, 3) := by decide +kernel
theorem dX6_connect_78 : decode cX6_connect 78 = .ok (.iinc 4 1, 3) := by decide +kernel
theorem dX6_connect_81 : decode cX6_connect 81 = .ok (.goto (-17), 3) := by decide +kernel
theorem dX6_connect_84 : decode cX6_connect 84 = .ok (.aload_n 0, 1) := by decide +kernel
theorem dX6_connect_85 : decode cX6_connect 85 = .ok (.iload_n 1, 1) := by decide +kernel
theorem dX6_connect_86 : decode cX6_connect 86 = .ok (.iload_n 2, 1) := by decide +kernel
theorem dX6_connect_87 : decode cX6_connect 87 = .ok (.iconst 1, 1) := by decide +kernel
theorem dX6_connect_88 : decode cX6_connect 88 = .ok (.invokevirtual 105, 3) := by decide +kernel
theorem dX6_connect_91 : decode cX6_connect 91 = .ok (.iload_n 3, 1) := by decide +kernel
theorem dX6_connect_92 : decode cX6_connect 92 = .ok (.ireturn, 1) := by decide +kernel
theorem dX6_disconnect_0 : decode cX6_disconnect 0 = .ok (.aload_n 0, 1) := by decide +kernel
theorem dX6_disconnect_1 : decode cX6_disconnect 1 = .ok (.iload_n 1, 1) := by decide +kernel
theorem dX6_disconnect_2 : decode cX6_disconnect 2 = .ok (.iload_n 2, 1) := by decide +kernel
theorem dX6_disconnect_3 : decode cX6_disconnect 3 = .ok (.invokevirtual 92, 3) := by decide +kernel
theorem dX6_disconnect_6 : decode cX6_disconnect 6 = .ok (.ifCond .eq 8, 3) := by decide +kernel
theorem dX6_disconnect_9 : decode cX6_disconnect 9 = .ok (.iload_n 1, 1) := by decide +kernel
theorem dX6_disconnect_10 : decode cX6_disconnect 10 = .ok (.iload_n 2, 1) := by decide +kernel
theorem dX6_disconnect_11 : decode cX6_disconnect 11 = .ok (.if_icmp .ne 5, 3) := by decide +kernel
theorem dX6_disconnect_14 : decode cX6_disconnect 14 = .ok (.iconst (-1), 1) := by decide +kernel
theorem dX6_disconnect_15 : decode cX6_disconnect 15 = .ok (.ireturn, 1) := by decide +kernel
theorem dX6_disconnect_16 : decode cX6_disconnect 16 = .ok (.aload_n 0, 1) := by decide +kernel
theorem dX6_disconnect_17 : decode cX6_disconnect 17 = .ok (.iload_n 1, 1) := by decide +kernel
theorem dX6_disconnect_18 : decode cX6_disconnect 18 = .ok (.iload_n 2, 1) := by decide +kernel
theorem dX6_disconnect_19 : decode cX6_disconnect 19 = .ok (.invokevirtual 109, 3) := by decide +kernel
theorem dX6_disconnect_22 : decode cX6_disconnect 22 = .ok (.ifCond .ne 6, 3) := by decide +kernel
theorem dX6_disconnect_25 : decode cX6_disconnect 25 = .ok (.bipush (-2), 2) := by decide +kernel
theorem dX6_disconnect_27 : decode cX6_disconnect 27 = .ok (.ireturn, 1) := by decide +kernel
theorem dX6_disconnect_28 : decode cX6_disconnect 28 = .ok (.aload_n 0, 1) := by decide +kernel
theorem dX6_disconnect_29 : decode cX6_disconnect 29 = .ok (.invokevirtual 69, 3) := by decide +kernel
theorem dX6_disconnect_32 : decode cX6_disconnect 32 = .ok (.aload_n 0, 1) := by decide +kernel
theorem dX6_disconnect_33 : decode cX6_disconnect 33 = .ok (.iload_n 1, 1) := by decide +kernel
theorem dX6_disconnect_34 : decode cX6_disconnect 34 = .ok (.iload_n 2, 1) := by decide +kernel
theorem dX6_disconnect_35 : decode cX6_disconnect 35 = .ok (.iconst 0, 1) := by decide +kernel
theorem dX6_disconnect_36 : decode cX6_disconnect 36 = .ok (.invokevirtual 105, 3) := by decide +kernel
theorem dX6_disconnect_39 : decode cX6_disconnect 39 = .ok (.aload_n 0, 1) := by decide +kernel
theorem dX6_disconnect_40 : decode cX6_disconnect 40 = .ok (.iload_n 1, 1) := by decide +kernel
theorem dX6_disconnect_41 : decode cX6_disconnect 41 = .ok (.invokevirtual 54, 3) := by decide +kernel
theorem dX6_disconnect_44 : decode cX6_disconnect 44 = .ok (.invokestatic 79, 3) := by decide +kernel
theorem dX6_disconnect_47 : decode cX6_disconnect 47 = .ok (.ireturn, 1) := by decide +kernel
theorem dX6_advance_0 : decode cX6_advance 0 = .ok (.iload_n 1, 1) := by decide +kernel
theorem dX6_advance_1 : decode cX6_advance 1 = .ok (.iconst 1, 1) := by decide +kernel
theorem dX6_advance_2 : decode cX6_advance 2 = .ok (.sipush 999, 3) := by decide +kernel
theorem dX6_advance_5 : decode cX6_advance 5 = .ok (.invokestatic 42, 3) := by decide +kernel
theorem dX6_advance_8 : decode cX6_advance 8 = .ok (.ifCond .ne 5, 3) := by decide +kernel
theorem dX6_advance_11 : decode cX6_advance 11 = .ok (.iconst (-1), 1) := by decide +kernel
theorem dX6_advance_12 : decode cX6_advance 12 = .ok (.ireturn, 1) := by decide +kernel
theorem dX6_advance_13 : decode cX6_advance 13 = .ok (.aload_n 0, 1) := by decide +kernel
theorem dX6_advance_14 : decode cX6_advance 14 = .ok (.getfield 7, 3) := by decide +kernel
theorem dX6_advance_17 : decode cX6_advance 17 = .ok (.iconst 1, 1) := by decide +kernel
theorem dX6_advance_18 : decode cX6_advance 18 = .ok (.iaload, 1) := by decide +kernel
theorem dX6_advance_19 : decode cX6_advance 19 = .ok (.iload_n 1, 1) := by decide +kernel
theorem dX6_advance_20 : decode cX6_advance 20 = .ok (.iadd, 1) := by decide +kernel
theorem dX6_advance_21 : decode cX6_advance 21 = .ok (.sipush 9999, 3) := by decide +kernel
theorem dX6_advance_24 : decode cX6_advance 24 = .ok (.if_icmp .le 6, 3) := by decide +kernel
theorem dX6_advance_27 : decode cX6_advance 27 = .ok (.bipush (-3), 2) := by decide +kernel
theorem dX6_advance_29 : decode cX6_advance 29 = .ok (.ireturn, 1) := by decide +kernel
theorem dX6_advance_30 : decode cX6_advance 30 = .ok (.aload_n 0, 1) := by decide +kernel
theorem dX6_advance_31 : decode cX6_advance 31 = .ok (.invokevirtual 69, 3) := by decide +kernel
theorem dX6_advance_34 : decode cX6_advance 34 = .ok (.aload_n 0, 1) := by decide +kernel
theorem dX6_advance_35 : decode cX6_advance 35 = .ok (.getfield 7, 3) := by decide +kernel
theorem dX6_advance_38 : decode cX6_advance 38 = .ok (.iconst 1, 1) := by decide +kernel
theorem dX6_advance_39 : decode cX6_advance 39 = .ok (.dup2, 1) := by decide +kernel
theorem dX6_advance_40 : decode cX6_advance 40 = .ok (.iaload, 1) := by decide +kernel
theorem dX6_advance_41 : decode cX6_advance 41 = .ok (.iload_n 1, 1) := by decide +kernel
theorem dX6_advance_42 : decode cX6_advance 42 = .ok (.iadd, 1) := by decide +kernel
theorem dX6_advance_43 : decode cX6_advance 43 = .ok (.iastore, 1) := by decide +kernel
theorem dX6_advance_44 : decode cX6_advance 44 = .ok (.aload_n 0, 1) := by decide +kernel
theorem dX6_advance_45 : decode cX6_advance 45 = .ok (.getfield 7, 3) := by decide +kernel
theorem dX6_advance_48 : decode cX6_advance 48 = .ok (.iconst 1, 1) := by decide +kernel
theorem dX6_advance_49 : decode cX6_advance 49 = .ok (.iaload, 1) := by decide +kernel
theorem dX6_advance_50 : decode cX6_advance 50 = .ok (.ireturn, 1) := by decide +kernel
theorem dX6_time_0 : decode cX6_time 0 = .ok (.aload_n 0, 1) := by decide +kernel
theorem dX6_time_1 : decode cX6_time 1 = .ok (.getfield 7, 3) := by decide +kernel
theorem dX6_time_4 : decode cX6_time 4 = .ok (.iconst 1, 1) := by decide +kernel
theorem dX6_time_5 : decode cX6_time 5 = .ok (.iaload, 1) := by decide +kernel
theorem dX6_time_6 : decode cX6_time 6 = .ok (.ireturn, 1) := by decide +kernel
theorem dX6_hops_0 : decode cX6_hops 0 = .ok (.aload_n 0, 1) := by decide +kernel
theorem dX6_hops_1 : decode cX6_hops 1 = .ok (.iload_n 1, 1) := by decide +kernel
theorem dX6_hops_2 : decode cX6_hops 2 = .ok (.iload_n 2, 1) := by decide +kernel
theorem dX6_hops_3 : decode cX6_hops 3 = .ok (.invokevirtual 92, 3) := by decide +kernel
theorem dX6_hops_6 : decode cX6_hops 6 = .ok (.ifCond .ne 5, 3) := by decide +kernel
theorem dX6_hops_9 : decode cX6_hops 9 = .ok (.iconst (-1), 1) := by decide +kernel
theorem dX6_hops_10 : decode cX6_hops 10 = .ok (.ireturn, 1) := by decide +kernel
theorem dX6_hops_11 : decode cX6_hops 11 = .ok (.aload_n 0, 1) := by decide +kernel
theorem dX6_hops_12 : decode cX6_hops 12 = .ok (.iload_n 1, 1) := by decide +kernel
theorem dX6_hops_13 : decode cX6_hops 13 = .ok (.iload_n 2, 1) := by decide +kernel
theorem dX6_hops_14 : decode cX6_hops 14 = .ok (.invokevirtual 95, 3) := by decide +kernel
theorem dX6_hops_17 : decode cX6_hops 17 = .ok (.ifCond .ne 6, 3) := by decide +kernel
theorem dX6_hops_20 : decode cX6_hops 20 = .ok (.bipush (-9), 2) := by decide +kernel
theorem dX6_hops_22 : decode cX6_hops 22 = .ok (.ireturn, 1) := by decide +kernel
theorem dX6_hops_23 : decode cX6_hops 23 = .ok (.iconst 1, 1) := by decide +kernel
theorem dX6_hops_24 : decode cX6_hops 24 = .ok (.iload_n 1, 1) := by decide +kernel
theorem dX6_hops_25 : decode cX6_hops 25 = .ok (.ishl, 1) := by decide +kernel
theorem dX6_hops_26 : decode cX6_hops 26 = .ok (.istore_n 3, 1) := by decide +kernel
theorem dX6_hops_27 : decode cX6_hops 27 = .ok (.iconst 0, 1) := by decide +kernel
theorem dX6_hops_28 : decode cX6_hops 28 = .ok (.istore 4, 2) := by decide +kernel
theorem dX6_hops_30 : decode cX6_hops 30 = .ok (.iload_n 3, 1) := by decide +kernel
theorem dX6_hops_31 : decode cX6_hops 31 = .ok (.iload_n 2, 1) := by decide +kernel
theorem dX6_hops_32 : decode cX6_hops 32 = .ok (.invokestatic 50, 3) := by decide +kernel
theorem dX6_hops_35 : decode cX6_hops 35 = .ok (.ifCond .ne 62, 3) := by decide +kernel
theorem dX6_hops_38 : decode cX6_hops 38 = .ok (.iload_n 3, 1) := by decide +kernel
theorem dX6_hops_39 : decode cX6_hops 39 = .ok (.istore 5, 2) := by decide +kernel
theorem dX6_hops_41 : decode cX6_hops 41 = .ok (.iconst 0, 1) := by decide +kernel
theorem dX6_hops_42 : decode cX6_hops 42 = .ok (.istore 6, 2) := by decide +kernel
theorem dX6_hops_44 : decode cX6_hops 44 = .ok (.iload 6, 2) := by decide +kernel
theorem dX6_hops_46 : decode cX6_hops 46 = .ok (.aload_n 0, 1) := by decide +kernel
theorem dX6_hops_47 : decode cX6_hops 47 = .ok (.getfield 7, 3) := by decide +kernel
theorem dX6_hops_50 : decode cX6_hops 50 = .ok (.iconst 0, 1) := by decide +kernel
theorem dX6_hops_51 : decode cX6_hops 51 = .ok (.iaload, 1) := by decide +kernel
theorem dX6_hops_52 : decode cX6_hops 52 = .ok (.if_icmp .ge 36, 3) := by decide +kernel
theorem dX6_hops_55 : decode cX6_hops 55 = .ok (.iload 5, 2) := by decide +kernel
theorem dX6_hops_57 : decode cX6_hops 57 = .ok (.iload_n 3, 1) := by decide +kernel
theorem dX6_hops_58 : decode cX6_hops 58 = .ok (.iload 6, 2) := by decide +kernel
theorem dX6_hops_60 : decode cX6_hops 60 = .ok (.invokestatic 50, 3) := by decide +kernel
theorem dX6_hops_63 : decode cX6_hops 63 = .ok (.ifCond .eq 15, 3) := by decide +kernel
theorem dX6_hops_66 : decode cX6_hops 66 = .ok (.aload_n 0, 1) := by decide +kernel
theorem dX6_hops_67 : decode cX6_hops 67 = .ok (.getfield 7, 3) := by decide +kernel
theorem dX6_hops_70 : decode cX6_hops 70 = .ok (.iconst 4, 1) := by decide +kernel
theorem dX6_hops_71 : decode cX6_hops 71 = .ok (.iload 6, 2) := by decide +kernel
theorem dX6_hops_73 : decode cX6_hops 73 = .ok (.iadd, 1) := by decide +kernel
theorem dX6_hops_74 : decode cX6_hops 74 = .ok (.iaload, 1) := by decide +kernel
theorem dX6_hops_75 : decode cX6_hops 75 = .ok (.goto 4, 3) := by decide +kernel
theorem dX6_hops_78 : decode cX6_hops 78 = .ok (.iconst 0, 1) := by decide +kernel
theorem dX6_hops_79 : decode cX6_hops 79 = .ok (.ior, 1) := by decide +kernel
theorem dX6_hops_80 : decode cX6_hops 80 = .ok (.istore 5, 2) := by decide +kernel
theorem dX6_hops_82 : decode cX6_hops 82 = .ok (.iinc 6 1, 3) := by decide +kernel
theorem dX6_hops_85 : decode cX6_hops 85 = .ok (.goto (-41), 3) := by decide +kernel
theorem dX6_hops_88 : decode cX6_hops 88 = .ok (.iload 5, 2) := by decide +kernel
theorem dX6_hops_90 : decode cX6_hops 90 = .ok (.istore_n 3, 1) := by decide +kernel
theorem dX6_hops_91 : decode cX6_hops 91 = .ok (.iinc 4 1, 3) := by decide +kernel
theorem dX6_hops_94 : decode cX6_hops 94 = .ok (.goto (-64), 3) := by decide +kernel
theorem dX6_hops_97 : decode cX6_hops 97 = .ok (.iload 4, 2) := by decide +kernel
theorem dX6_hops_99 : decode cX6_hops 99 = .ok (.ireturn, 1) := by decide +kernel
theorem dX6_isPlace_0 : decode cX6_isPlace 0 = .ok (.aload_n 0, 1) := by decide +kernel
theorem dX6_isPlace_1 : decode cX6_isPlace 1 = .ok (.iload_n 1, 1) := by decide +kernel
theorem dX6_isPlace_2 : decode cX6_isPlace 2 = .ok (.invokevirtual 46, 3) := by decide +kernel
theorem dX6_isPlace_5 : decode cX6_isPlace 5 = .ok (.ifCond .eq 14, 3) := by decide +kernel
theorem dX6_isPlace_8 : decode cX6_isPlace 8 = .ok (.iload_n 2, 1) := by decide +kernel
theorem dX6_isPlace_9 : decode cX6_isPlace 9 = .ok (.invokestatic 112, 3) := by decide +kernel
theorem dX6_isPlace_12 : decode cX6_isPlace 12 = .ok (.ifCond .eq 7, 3) := by decide +kernel
theorem dX6_isPlace_15 : decode cX6_isPlace 15 = .ok (.iconst 1, 1) := by decide +kernel
theorem dX6_isPlace_16 : decode cX6_isPlace 16 = .ok (.goto 4, 3) := by decide +kernel
theorem dX6_isPlace_19 : decode cX6_isPlace 19 = .ok (.iconst 0, 1) := by decide +kernel
theorem dX6_isPlace_20 : decode cX6_isPlace 20 = .ok (.ireturn, 1) := by decide +kernel
theorem dX6_signOn_0 : decode cX6_signOn 0 = .ok (.aload_n 0, 1) := by decide +kernel
theorem dX6_signOn_1 : decode cX6_signOn 1 = .ok (.iload_n 1, 1) := by decide +kernel
theorem dX6_signOn_2 : decode cX6_signOn 2 = .ok (.iload_n 2, 1) := by decide +kernel
theorem dX6_signOn_3 : decode cX6_signOn 3 = .ok (.invokevirtual 115, 3) := by decide +kernel
theorem dX6_signOn_6 : decode cX6_signOn 6 = .ok (.ifCond .ne 5, 3) := by decide +kernel
theorem dX6_signOn_9 : decode cX6_signOn 9 = .ok (.iconst (-1), 1) := by decide +kernel
theorem dX6_signOn_10 : decode cX6_signOn 10 = .ok (.ireturn, 1) := by decide +kernel
theorem dX6_signOn_11 : decode cX6_signOn 11 = .ok (.aload_n 0, 1) := by decide +kernel
theorem dX6_signOn_12 : decode cX6_signOn 12 = .ok (.iload_n 1, 1) := by decide +kernel
theorem dX6_signOn_13 : decode cX6_signOn 13 = .ok (.invokevirtual 54, 3) := by decide +kernel
theorem dX6_signOn_16 : decode cX6_signOn 16 = .ok (.istore_n 3, 1) := by decide +kernel
theorem dX6_signOn_17 : decode cX6_signOn 17 = .ok (.aload_n 0, 1) := by decide +kernel
theorem dX6_signOn_18 : decode cX6_signOn 18 = .ok (.iload_n 3, 1) := by decide +kernel
theorem dX6_signOn_19 : decode cX6_signOn 19 = .ok (.iload_n 2, 1) := by decide +kernel
theorem dX6_signOn_20 : decode cX6_signOn 20 = .ok (.invokevirtual 72, 3) := by decide +kernel
theorem dX6_signOn_23 : decode cX6_signOn 23 = .ok (.bipush (-9), 2) := by decide +kernel
theorem dX6_signOn_25 : decode cX6_signOn 25 = .ok (.if_icmp .eq 6, 3) := by decide +kernel
theorem dX6_signOn_28 : decode cX6_signOn 28 = .ok (.bipush (-2), 2) := by decide +kernel
theorem dX6_signOn_30 : decode cX6_signOn 30 = .ok (.ireturn, 1) := by decide +kernel
theorem dX6_signOn_31 : decode cX6_signOn 31 = .ok (.aload_n 0, 1) := by decide +kernel
theorem dX6_signOn_32 : decode cX6_signOn 32 = .ok (.invokevirtual 69, 3) := by decide +kernel
theorem dX6_signOn_35 : decode cX6_signOn 35 = .ok (.aload_n 0, 1) := by decide +kernel
theorem dX6_signOn_36 : decode cX6_signOn 36 = .ok (.getfield 7, 3) := by decide +kernel
theorem dX6_signOn_39 : decode cX6_signOn 39 = .ok (.bipush 10, 2) := by decide +kernel
theorem dX6_signOn_41 : decode cX6_signOn 41 = .ok (.iload_n 1, 1) := by decide +kernel
theorem dX6_signOn_42 : decode cX6_signOn 42 = .ok (.iload_n 2, 1) := by decide +kernel
theorem dX6_signOn_43 : decode cX6_signOn 43 = .ok (.invokestatic 58, 3) := by decide +kernel
theorem dX6_signOn_46 : decode cX6_signOn 46 = .ok (.iadd, 1) := by decide +kernel
theorem dX6_signOn_47 : decode cX6_signOn 47 = .ok (.aload_n 0, 1) := by decide +kernel
theorem dX6_signOn_48 : decode cX6_signOn 48 = .ok (.getfield 7, 3) := by decide +kernel
theorem dX6_signOn_51 : decode cX6_signOn 51 = .ok (.iconst 1, 1) := by decide +kernel
theorem dX6_signOn_52 : decode cX6_signOn 52 = .ok (.iaload, 1) := by decide +kernel
theorem dX6_signOn_53 : decode cX6_signOn 53 = .ok (.iastore, 1) := by decide +kernel
theorem dX6_signOn_54 : decode cX6_signOn 54 = .ok (.aload_n 0, 1) := by decide +kernel
theorem dX6_signOn_55 : decode cX6_signOn 55 = .ok (.iload_n 3, 1) := by decide +kernel
theorem dX6_signOn_56 : decode cX6_signOn 56 = .ok (.bipush 10, 2) := by decide +kernel
theorem dX6_signOn_58 : decode cX6_signOn 58 = .ok (.iconst 0, 1) := by decide +kernel
theorem dX6_signOn_59 : decode cX6_signOn 59 = .ok (.invokevirtual 65, 3) := by decide +kernel
theorem dX6_signOn_62 : decode cX6_signOn 62 = .ok (.invokestatic 79, 3) := by decide +kernel
theorem dX6_signOn_65 : decode cX6_signOn 65 = .ok (.ireturn, 1) := by decide +kernel
theorem dX6_signOff_0 : decode cX6_signOff 0 = .ok (.aload_n 0, 1) := by decide +kernel
theorem dX6_signOff_1 : decode cX6_signOff 1 = .ok (.iload_n 1, 1) := by decide +kernel
theorem dX6_signOff_2 : decode cX6_signOff 2 = .ok (.iload_n 2, 1) := by decide +kernel
theorem dX6_signOff_3 : decode cX6_signOff 3 = .ok (.invokevirtual 115, 3) := by decide +kernel
theorem dX6_signOff_6 : decode cX6_signOff 6 = .ok (.ifCond .ne 5, 3) := by decide +kernel
theorem dX6_signOff_9 : decode cX6_signOff 9 = .ok (.iconst (-1), 1) := by decide +kernel
theorem dX6_signOff_10 : decode cX6_signOff 10 = .ok (.ireturn, 1) := by decide +kernel
theorem dX6_signOff_11 : decode cX6_signOff 11 = .ok (.aload_n 0, 1) := by decide +kernel
theorem dX6_signOff_12 : decode cX6_signOff 12 = .ok (.iload_n 1, 1) := by decide +kernel
theorem dX6_signOff_13 : decode cX6_signOff 13 = .ok (.iload_n 2, 1) := by decide +kernel
theorem dX6_signOff_14 : decode cX6_signOff 14 = .ok (.invokevirtual 62, 3) := by decide +kernel
theorem dX6_signOff_17 : decode cX6_signOff 17 = .ok (.ifCond .ne 6, 3) := by decide +kernel
theorem dX6_signOff_20 : decode cX6_signOff 20 = .ok (.bipush (-2), 2) := by decide +kernel
theorem dX6_signOff_22 : decode cX6_signOff 22 = .ok (.ireturn, 1) := by decide +kernel
theorem dX6_signOff_23 : decode cX6_signOff 23 = .ok (.aload_n 0, 1) := by decide +kernel
theorem dX6_signOff_24 : decode cX6_signOff 24 = .ok (.invokevirtual 69, 3) := by decide +kernel
theorem dX6_signOff_27 : decode cX6_signOff 27 = .ok (.aload_n 0, 1) := by decide +kernel
theorem dX6_signOff_28 : decode cX6_signOff 28 = .ok (.getfield 7, 3) := by decide +kernel
theorem dX6_signOff_31 : decode cX6_signOff 31 = .ok (.bipush 70, 2) := by decide +kernel
theorem dX6_signOff_33 : decode cX6_signOff 33 = .ok (.iload_n 1, 1) := by decide +kernel
theorem dX6_signOff_34 : decode cX6_signOff 34 = .ok (.iload_n 2, 1) := by decide +kernel
theorem dX6_signOff_35 : decode cX6_signOff 35 = .ok (.invokestatic 58, 3) := by decide +kernel
theorem dX6_signOff_38 : decode cX6_signOff 38 = .ok (.iadd, 1) := by decide +kernel
theorem dX6_signOff_39 : decode cX6_signOff 39 = .ok (.iaload, 1) := by decide +kernel
theorem dX6_signOff_40 : decode cX6_signOff 40 = .ok (.invokestatic 79, 3) := by decide +kernel
theorem dX6_signOff_43 : decode cX6_signOff 43 = .ok (.istore_n 3, 1) := by decide +kernel
theorem dX6_signOff_44 : decode cX6_signOff 44 = .ok (.aload_n 0, 1) := by decide +kernel
theorem dX6_signOff_45 : decode cX6_signOff 45 = .ok (.iload_n 1, 1) := by decide +kernel
theorem dX6_signOff_46 : decode cX6_signOff 46 = .ok (.iload_n 2, 1) := by decide +kernel
theorem dX6_signOff_47 : decode cX6_signOff 47 = .ok (.invokevirtual 75, 3) := by decide +kernel
theorem dX6_signOff_50 : decode cX6_signOff 50 = .ok (.iload_n 3, 1) := by decide +kernel
theorem dX6_signOff_51 : decode cX6_signOff 51 = .ok (.ireturn, 1) := by decide +kernel
theorem dX6_changeNick_0 : decode cX6_changeNick 0 = .ok (.aload_n 0, 1) := by decide +kernel
theorem dX6_changeNick_1 : decode cX6_changeNick 1 = .ok (.iload_n 1, 1) := by decide +kernel
theorem dX6_changeNick_2 : decode cX6_changeNick 2 = .ok (.iload_n 2, 1) := by decide +kernel
theorem dX6_changeNick_3 : decode cX6_changeNick 3 = .ok (.invokevirtual 115, 3) := by decide +kernel
theorem dX6_changeNick_6 : decode cX6_changeNick 6 = .ok (.ifCond .eq 10, 3) := by decide +kernel
theorem dX6_changeNick_9 : decode cX6_changeNick 9 = .ok (.iload_n 3, 1) := by decide +kernel
theorem dX6_changeNick_10 : decode cX6_changeNick 10 = .ok (.invokestatic 112, 3) := by decide +kernel
theorem dX6_changeNick_13 : decode cX6_changeNick 13 = .ok (.ifCond .ne 5, 3) := by decide +kernel
theorem dX6_changeNick_16 : decode cX6_changeNick 16 = .ok (.iconst (-1), 1) := by decide +kernel
theorem dX6_changeNick_17 : decode cX6_changeNick 17 = .ok (.ireturn, 1) := by decide +kernel
theorem dX6_changeNick_18 : decode cX6_changeNick 18 = .ok (.aload_n 0, 1) := by decide +kernel
theorem dX6_changeNick_19 : decode cX6_changeNick 19 = .ok (.iload_n 1, 1) := by decide +kernel
theorem dX6_changeNick_20 : decode cX6_changeNick 20 = .ok (.iload_n 2, 1) := by decide +kernel
theorem dX6_changeNick_21 : decode cX6_changeNick 21 = .ok (.invokevirtual 62, 3) := by decide +kernel
theorem dX6_changeNick_24 : decode cX6_changeNick 24 = .ok (.ifCond .eq 18, 3) := by decide +kernel
theorem dX6_changeNick_27 : decode cX6_changeNick 27 = .ok (.aload_n 0, 1) := by decide +kernel
theorem dX6_changeNick_28 : decode cX6_changeNick 28 = .ok (.aload_n 0, 1) := by decide +kernel
theorem dX6_changeNick_29 : decode cX6_changeNick 29 = .ok (.iload_n 1, 1) := by decide +kernel
theorem dX6_changeNick_30 : decode cX6_changeNick 30 = .ok (.invokevirtual 54, 3) := by decide +kernel
theorem dX6_changeNick_33 : decode cX6_changeNick 33 = .ok (.iload_n 3, 1) := by decide +kernel
theorem dX6_changeNick_34 : decode cX6_changeNick 34 = .ok (.invokevirtual 72, 3) := by decide +kernel
theorem dX6_changeNick_37 : decode cX6_changeNick 37 = .ok (.bipush (-9), 2) := by decide +kernel
theorem dX6_changeNick_39 : decode cX6_changeNick 39 = .ok (.if_icmp .eq 6, 3) := by decide +kernel
theorem dX6_changeNick_42 : decode cX6_changeNick 42 = .ok (.bipush (-2), 2) := by decide +kernel
theorem dX6_changeNick_44 : decode cX6_changeNick 44 = .ok (.ireturn, 1) := by decide +kernel
theorem dX6_changeNick_45 : decode cX6_changeNick 45 = .ok (.aload_n 0, 1) := by decide +kernel
theorem dX6_changeNick_46 : decode cX6_changeNick 46 = .ok (.invokevirtual 69, 3) := by decide +kernel
theorem dX6_changeNick_49 : decode cX6_changeNick 49 = .ok (.iload_n 1, 1) := by decide +kernel
theorem dX6_changeNick_50 : decode cX6_changeNick 50 = .ok (.iload_n 2, 1) := by decide +kernel
theorem dX6_changeNick_51 : decode cX6_changeNick 51 = .ok (.invokestatic 58, 3) := by decide +kernel
theorem dX6_changeNick_54 : decode cX6_changeNick 54 = .ok (.istore 4, 2) := by decide +kernel
theorem dX6_changeNick_56 : decode cX6_changeNick 56 = .ok (.iload_n 1, 1) := by decide +kernel
theorem dX6_changeNick_57 : decode cX6_changeNick 57 = .ok (.iload_n 3, 1) := by decide +kernel
theorem dX6_changeNick_58 : decode cX6_changeNick 58 = .ok (.invokestatic 58, 3) := by decide +kernel
theorem dX6_changeNick_61 : decode cX6_changeNick 61 = .ok (.istore 5, 2) := by decide +kernel
theorem dX6_changeNick_63 : decode cX6_changeNick 63 = .ok (.aload_n 0, 1) := by decide +kernel
theorem dX6_changeNick_64 : decode cX6_changeNick 64 = .ok (.getfield 7, 3) := by decide +kernel
theorem dX6_changeNick_67 : decode cX6_changeNick 67 = .ok (.bipush 10, 2) := by decide +kernel
theorem dX6_changeNick_69 : decode cX6_changeNick 69 = .ok (.iload 4, 2) := by decide +kernel
theorem dX6_changeNick_71 : decode cX6_changeNick 71 = .ok (.iadd, 1) := by decide +kernel
theorem dX6_changeNick_72 : decode cX6_changeNick 72 = .ok (.iaload, 1) := by decide +kernel
theorem dX6_changeNick_73 : decode cX6_changeNick 73 = .ok (.istore 6, 2) := by decide +kernel
theorem dX6_changeNick_75 : decode cX6_changeNick 75 = .ok (.aload_n 0, 1) := by decide +kernel
theorem dX6_changeNick_76 : decode cX6_changeNick 76 = .ok (.getfield 7, 3) := by decide +kernel
theorem dX6_changeNick_79 : decode cX6_changeNick 79 = .ok (.bipush 10, 2) := by decide +kernel
theorem dX6_changeNick_81 : decode cX6_changeNick 81 = .ok (.iload 5, 2) := by decide +kernel
theorem dX6_changeNick_83 : decode cX6_changeNick 83 = .ok (.iadd, 1) := by decide +kernel
theorem dX6_changeNick_84 : decode cX6_changeNick 84 = .ok (.aload_n 0, 1) := by decide +kernel
theorem dX6_changeNick_85 : decode cX6_changeNick 85 = .ok (.getfield 7, 3) := by decide +kernel
theorem dX6_changeNick_88 : decode cX6_changeNick 88 = .ok (.iconst 1, 1) := by decide +kernel
theorem dX6_changeNick_89 : decode cX6_changeNick 89 = .ok (.iaload, 1) := by decide +kernel
theorem dX6_changeNick_90 : decode cX6_changeNick 90 = .ok (.iastore, 1) := by decide +kernel
theorem dX6_changeNick_91 : decode cX6_changeNick 91 = .ok (.aload_n 0, 1) := by decide +kernel
theorem dX6_changeNick_92 : decode cX6_changeNick 92 = .ok (.getfield 7, 3) := by decide +kernel
theorem dX6_changeNick_95 : decode cX6_changeNick 95 = .ok (.bipush 70, 2) := by decide +kernel
theorem dX6_changeNick_97 : decode cX6_changeNick 97 = .ok (.iload 5, 2) := by decide +kernel
theorem dX6_changeNick_99 : decode cX6_changeNick 99 = .ok (.iadd, 1) := by decide +kernel
theorem dX6_changeNick_100 : decode cX6_changeNick 100 = .ok (.aload_n 0, 1) := by decide +kernel
theorem dX6_changeNick_101 : decode cX6_changeNick 101 = .ok (.getfield 7, 3) := by decide +kernel
theorem dX6_changeNick_104 : decode cX6_changeNick 104 = .ok (.bipush 70, 2) := by decide +kernel
theorem dX6_changeNick_106 : decode cX6_changeNick 106 = .ok (.iload 4, 2) := by decide +kernel
theorem dX6_changeNick_108 : decode cX6_changeNick 108 = .ok (.iadd, 1) := by decide +kernel
theorem dX6_changeNick_109 : decode cX6_changeNick 109 = .ok (.iaload, 1) := by decide +kernel
theorem dX6_changeNick_110 : decode cX6_changeNick 110 = .ok (.iastore, 1) := by decide +kernel
theorem dX6_changeNick_111 : decode cX6_changeNick 111 = .ok (.aload_n 0, 1) := by decide +kernel
theorem dX6_changeNick_112 : decode cX6_changeNick 112 = .ok (.getfield 7, 3) := by decide +kernel
theorem dX6_changeNick_115 : decode cX6_changeNick 115 = .ok (.sipush 130, 3) := by decide +kernel
theorem dX6_changeNick_118 : decode cX6_changeNick 118 = .ok (.iload 5, 2) := by decide +kernel
theorem dX6_changeNick_120 : decode cX6_changeNick 120 = .ok (.iadd, 1) := by decide +kernel
theorem dX6_changeNick_121 : decode cX6_changeNick 121 = .ok (.aload_n 0, 1) := by decide +kernel
theorem dX6_changeNick_122 : decode cX6_changeNick 122 = .ok (.getfield 7, 3) := by decide +kernel
theorem dX6_changeNick_125 : decode cX6_changeNick 125 = .ok (.sipush 130, 3) := by decide +kernel
theorem dX6_changeNick_128 : decode cX6_changeNick 128 = .ok (.iload 4, 2) := by decide +kernel
theorem dX6_changeNick_130 : decode cX6_changeNick 130 = .ok (.iadd, 1) := by decide +kernel
theorem dX6_changeNick_131 : decode cX6_changeNick 131 = .ok (.iaload, 1) := by decide +kernel
theorem dX6_changeNick_132 : decode cX6_changeNick 132 = .ok (.iastore, 1) := by decide +kernel
theorem dX6_changeNick_133 : decode cX6_changeNick 133 = .ok (.aload_n 0, 1) := by decide +kernel
theorem dX6_changeNick_134 : decode cX6_changeNick 134 = .ok (.iload_n 1, 1) := by decide +kernel
theorem dX6_changeNick_135 : decode cX6_changeNick 135 = .ok (.iload_n 2, 1) := by decide +kernel
theorem dX6_changeNick_136 : decode cX6_changeNick 136 = .ok (.invokevirtual 75, 3) := by decide +kernel
theorem dX6_changeNick_139 : decode cX6_changeNick 139 = .ok (.iload 6, 2) := by decide +kernel
theorem dX6_changeNick_141 : decode cX6_changeNick 141 = .ok (.ireturn, 1) := by decide +kernel
theorem dX6_homeServer_0 : decode cX6_homeServer 0 = .ok (.aload_n 0, 1) := by decide +kernel
theorem dX6_homeServer_1 : decode cX6_homeServer 1 = .ok (.iload_n 1, 1) := by decide +kernel
theorem dX6_homeServer_2 : decode cX6_homeServer 2 = .ok (.iload_n 2, 1) := by decide +kernel
theorem dX6_homeServer_3 : decode cX6_homeServer 3 = .ok (.invokevirtual 115, 3) := by decide +kernel
theorem dX6_homeServer_6 : decode cX6_homeServer 6 = .ok (.ifCond .eq 16, 3) := by decide +kernel
theorem dX6_homeServer_9 : decode cX6_homeServer 9 = .ok (.aload_n 0, 1) := by decide +kernel
theorem dX6_homeServer_10 : decode cX6_homeServer 10 = .ok (.aload_n 0, 1) := by decide +kernel
theorem dX6_homeServer_11 : decode cX6_homeServer 11 = .ok (.iload_n 1, 1) := by decide +kernel
theorem dX6_homeServer_12 : decode cX6_homeServer 12 = .ok (.invokevirtual 54, 3) := by decide +kernel
theorem dX6_homeServer_15 : decode cX6_homeServer 15 = .ok (.iload_n 2, 1) := by decide +kernel
theorem dX6_homeServer_16 : decode cX6_homeServer 16 = .ok (.invokevirtual 72, 3) := by decide +kernel
theorem dX6_homeServer_19 : decode cX6_homeServer 19 = .ok (.goto 4, 3) := by decide +kernel
theorem dX6_homeServer_22 : decode cX6_homeServer 22 = .ok (.iconst (-1), 1) := by decide +kernel
theorem dX6_homeServer_23 : decode cX6_homeServer 23 = .ok (.ireturn, 1) := by decide +kernel
theorem dX6_userTimestamp_0 : decode cX6_userTimestamp 0 = .ok (.aload_n 0, 1) := by decide +kernel
theorem dX6_userTimestamp_1 : decode cX6_userTimestamp 1 = .ok (.iload_n 1, 1) := by decide +kernel
theorem dX6_userTimestamp_2 : decode cX6_userTimestamp 2 = .ok (.iload_n 2, 1) := by decide +kernel
theorem dX6_userTimestamp_3 : decode cX6_userTimestamp 3 = .ok (.invokevirtual 115, 3) := by decide +kernel
theorem dX6_userTimestamp_6 : decode cX6_userTimestamp 6 = .ok (.ifCond .ne 5, 3) := by decide +kernel
theorem dX6_userTimestamp_9 : decode cX6_userTimestamp 9 = .ok (.iconst (-1), 1) := by decide +kernel
theorem dX6_userTimestamp_10 : decode cX6_userTimestamp 10 = .ok (.ireturn, 1) := by decide +kernel
theorem dX6_userTimestamp_11 : decode cX6_userTimestamp 11 = .ok (.aload_n 0, 1) := by decide +kernel
theorem dX6_userTimestamp_12 : decode cX6_userTimestamp 12 = .ok (.aload_n 0, 1) := by decide +kernel
theorem dX6_userTimestamp_13 : decode cX6_userTimestamp 13 = .ok (.iload_n 1, 1) := by decide +kernel
theorem dX6_userTimestamp_14 : decode cX6_userTimestamp 14 = .ok (.invokevirtual 54, 3) := by decide +kernel
theorem dX6_userTimestamp_17 : decode cX6_userTimestamp 17 = .ok (.iload_n 2, 1) := by decide +kernel
theorem dX6_userTimestamp_18 : decode cX6_userTimestamp 18 = .ok (.invokevirtual 72, 3) := by decide +kernel
theorem dX6_userTimestamp_21 : decode cX6_userTimestamp 21 = .ok (.istore_n 3, 1) := by decide +kernel
theorem dX6_userTimestamp_22 : decode cX6_userTimestamp 22 = .ok (.iload_n 3, 1) := by decide +kernel
theorem dX6_userTimestamp_23 : decode cX6_userTimestamp 23 = .ok (.bipush (-9), 2) := by decide +kernel
theorem dX6_userTimestamp_25 : decode cX6_userTimestamp 25 = .ok (.if_icmp .ne 8, 3) := by decide +kernel
theorem dX6_userTimestamp_28 : decode cX6_userTimestamp 28 = .ok (.bipush (-9), 2) := by decide +kernel
theorem dX6_userTimestamp_30 : decode cX6_userTimestamp 30 = .ok (.goto 16, 3) := by decide +kernel
theorem dX6_userTimestamp_33 : decode cX6_userTimestamp 33 = .ok (.aload_n 0, 1) := by decide +kernel
theorem dX6_userTimestamp_34 : decode cX6_userTimestamp 34 = .ok (.getfield 7, 3) := by decide +kernel
theorem dX6_userTimestamp_37 : decode cX6_userTimestamp 37 = .ok (.bipush 10, 2) := by decide +kernel
theorem dX6_userTimestamp_39 : decode cX6_userTimestamp 39 = .ok (.iload_n 3, 1) := by decide +kernel
theorem dX6_userTimestamp_40 : decode cX6_userTimestamp 40 = .ok (.iload_n 2, 1) := by decide +kernel
theorem dX6_userTimestamp_41 : decode cX6_userTimestamp 41 = .ok (.invokestatic 58, 3) := by decide +kernel
theorem dX6_userTimestamp_44 : decode cX6_userTimestamp 44 = .ok (.iadd, 1) := by decide +kernel
theorem dX6_userTimestamp_45 : decode cX6_userTimestamp 45 = .ok (.iaload, 1) := by decide +kernel
theorem dX6_userTimestamp_46 : decode cX6_userTimestamp 46 = .ok (.ireturn, 1) := by decide +kernel
theorem dX6_visibleUsers_0 : decode cX6_visibleUsers 0 = .ok (.aload_n 0, 1) := by decide +kernel
theorem dX6_visibleUsers_1 : decode cX6_visibleUsers 1 = .ok (.iload_n 1, 1) := by decide +kernel
theorem dX6_visibleUsers_2 : decode cX6_visibleUsers 2 = .ok (.invokevirtual 46, 3) := by decide +kernel
theorem dX6_visibleUsers_5 : decode cX6_visibleUsers 5 = .ok (.ifCond .eq 18, 3) := by decide +kernel
theorem dX6_visibleUsers_8 : decode cX6_visibleUsers 8 = .ok (.aload_n 0, 1) := by decide +kernel
theorem dX6_visibleUsers_9 : decode cX6_visibleUsers 9 = .ok (.aload_n 0, 1) := by decide +kernel
theorem dX6_visibleUsers_10 : decode cX6_visibleUsers 10 = .ok (.iload_n 1, 1) := by decide +kernel
theorem dX6_visibleUsers_11 : decode cX6_visibleUsers 11 = .ok (.invokevirtual 54, 3) := by decide +kernel
theorem dX6_visibleUsers_14 : decode cX6_visibleUsers 14 = .ok (.bipush 10, 2) := by decide +kernel
theorem dX6_visibleUsers_16 : decode cX6_visibleUsers 16 = .ok (.iconst 0, 1) := by decide +kernel
theorem dX6_visibleUsers_17 : decode cX6_visibleUsers 17 = .ok (.invokevirtual 65, 3) := by decide +kernel
theorem dX6_visibleUsers_20 : decode cX6_visibleUsers 20 = .ok (.goto 4, 3) := by decide +kernel
theorem dX6_visibleUsers_23 : decode cX6_visibleUsers 23 = .ok (.iconst (-1), 1) := by decide +kernel
theorem dX6_visibleUsers_24 : decode cX6_visibleUsers 24 = .ok (.ireturn, 1) := by decide +kernel
theorem dX6_isMember_0 : decode cX6_isMember 0 = .ok (.aload_n 0, 1) := by decide +kernel
theorem dX6_isMember_1 : decode cX6_isMember 1 = .ok (.iload_n 1, 1) := by decide +kernel
theorem dX6_isMember_2 : decode cX6_isMember 2 = .ok (.iload_n 2, 1) := by decide +kernel
theorem dX6_isMember_3 : decode cX6_isMember 3 = .ok (.invokevirtual 62, 3) := by decide +kernel
theorem dX6_isMember_6 : decode cX6_isMember 6 = .ok (.ifCond .eq 27, 3) := by decide +kernel
theorem dX6_isMember_9 : decode cX6_isMember 9 = .ok (.aload_n 0, 1) := by decide +kernel
theorem dX6_isMember_10 : decode cX6_isMember 10 = .ok (.getfield 7, 3) := by decide +kernel
theorem dX6_isMember_13 : decode cX6_isMember 13 = .ok (.bipush 70, 2) := by decide +kernel
theorem dX6_isMember_15 : decode cX6_isMember 15 = .ok (.iload_n 1, 1) := by decide +kernel
theorem dX6_isMember_16 : decode cX6_isMember 16 = .ok (.iload_n 2, 1) := by decide +kernel
theorem dX6_isMember_17 : decode cX6_isMember 17 = .ok (.invokestatic 58, 3) := by decide +kernel
theorem dX6_isMember_20 : decode cX6_isMember 20 = .ok (.iadd, 1) := by decide +kernel
theorem dX6_isMember_21 : decode cX6_isMember 21 = .ok (.iaload, 1) := by decide +kernel
theorem dX6_isMember_22 : decode cX6_isMember 22 = .ok (.iload_n 3, 1) := by decide +kernel
theorem dX6_isMember_23 : decode cX6_isMember 23 = .ok (.invokestatic 50, 3) := by decide +kernel
theorem dX6_isMember_26 : decode cX6_isMember 26 = .ok (.ifCond .eq 7, 3) := by decide +kernel
theorem dX6_isMember_29 : decode cX6_isMember 29 = .ok (.iconst 1, 1) := by decide +kernel
theorem dX6_isMember_30 : decode cX6_isMember 30 = .ok (.goto 4, 3) := by decide +kernel
theorem dX6_isMember_33 : decode cX6_isMember 33 = .ok (.iconst 0, 1) := by decide +kernel
theorem dX6_isMember_34 : decode cX6_isMember 34 = .ok (.ireturn, 1) := by decide +kernel
theorem dX6_isOperator_0 : decode cX6_isOperator 0 = .ok (.aload_n 0, 1) := by decide +kernel
theorem dX6_isOperator_1 : decode cX6_isOperator 1 = .ok (.iload_n 1, 1) := by decide +kernel
theorem dX6_isOperator_2 : decode cX6_isOperator 2 = .ok (.iload_n 2, 1) := by decide +kernel
theorem dX6_isOperator_3 : decode cX6_isOperator 3 = .ok (.invokevirtual 62, 3) := by decide +kernel
theorem dX6_isOperator_6 : decode cX6_isOperator 6 = .ok (.ifCond .eq 28, 3) := by decide +kernel
theorem dX6_isOperator_9 : decode cX6_isOperator 9 = .ok (.aload_n 0, 1) := by decide +kernel
theorem dX6_isOperator_10 : decode cX6_isOperator 10 = .ok (.getfield 7, 3) := by decide +kernel
theorem dX6_isOperator_13 : decode cX6_isOperator 13 = .ok (.sipush 130, 3) := by decide +kernel
theorem dX6_isOperator_16 : decode cX6_isOperator 16 = .ok (.iload_n 1, 1) := by decide +kernel
theorem dX6_isOperator_17 : decode cX6_isOperator 17 = .ok (.iload_n 2, 1) := by decide +kernel
theorem dX6_isOperator_18 : decode cX6_isOperator 18 = .ok (.invokestatic 58, 3) := by decide +kernel
theorem dX6_isOperator_21 : decode cX6_isOperator 21 = .ok (.iadd, 1) := by decide +kernel
theorem dX6_isOperator_22 : decode cX6_isOperator 22 = .ok (.iaload, 1) := by decide +kernel
theorem dX6_isOperator_23 : decode cX6_isOperator 23 = .ok (.iload_n 3, 1) := by decide +kernel
theorem dX6_isOperator_24 : decode cX6_isOperator 24 = .ok (.invokestatic 50, 3) := by decide +kernel
theorem dX6_isOperator_27 : decode cX6_isOperator 27 = .ok (.ifCond .eq 7, 3) := by decide +kernel
theorem dX6_isOperator_30 : decode cX6_isOperator 30 = .ok (.iconst 1, 1) := by decide +kernel
theorem dX6_isOperator_31 : decode cX6_isOperator 31 = .ok (.goto 4, 3) := by decide +kernel
theorem dX6_isOperator_34 : decode cX6_isOperator 34 = .ok (.iconst 0, 1) := by decide +kernel
theorem dX6_isOperator_35 : decode cX6_isOperator 35 = .ok (.ireturn, 1) := by decide +kernel
theorem dX6_memberCount_0 : decode cX6_memberCount 0 = .ok (.aload_n 0, 1) := by decide +kernel
theorem dX6_memberCount_1 : decode cX6_memberCount 1 = .ok (.aload_n 0, 1) := by decide +kernel
theorem dX6_memberCount_2 : decode cX6_memberCount 2 = .ok (.iload_n 1, 1) := by decide +kernel
theorem dX6_memberCount_3 : decode cX6_memberCount 3 = .ok (.invokevirtual 54, 3) := by decide +kernel
theorem dX6_memberCount_6 : decode cX6_memberCount 6 = .ok (.iload_n 2, 1) := by decide +kernel
theorem dX6_memberCount_7 : decode cX6_memberCount 7 = .ok (.invokevirtual 82, 3) := by decide +kernel
theorem dX6_memberCount_10 : decode cX6_memberCount 10 = .ok (.invokestatic 79, 3) := by decide +kernel
theorem dX6_memberCount_13 : decode cX6_memberCount 13 = .ok (.ireturn, 1) := by decide +kernel
theorem dX6_join_0 : decode cX6_join 0 = .ok (.aload_n 0, 1) := by decide +kernel
theorem dX6_join_1 : decode cX6_join 1 = .ok (.iload_n 1, 1) := by decide +kernel
theorem dX6_join_2 : decode cX6_join 2 = .ok (.iload_n 2, 1) := by decide +kernel
theorem dX6_join_3 : decode cX6_join 3 = .ok (.invokevirtual 115, 3) := by decide +kernel
theorem dX6_join_6 : decode cX6_join 6 = .ok (.ifCond .eq 10, 3) := by decide +kernel
theorem dX6_join_9 : decode cX6_join 9 = .ok (.iload_n 3, 1) := by decide +kernel
theorem dX6_join_10 : decode cX6_join 10 = .ok (.invokestatic 118, 3) := by decide +kernel
theorem dX6_join_13 : decode cX6_join 13 = .ok (.ifCond .ne 5, 3) := by decide +kernel
theorem dX6_join_16 : decode cX6_join 16 = .ok (.iconst (-1), 1) := by decide +kernel
theorem dX6_join_17 : decode cX6_join 17 = .ok (.ireturn, 1) := by decide +kernel
theorem dX6_join_18 : decode cX6_join 18 = .ok (.aload_n 0, 1) := by decide +kernel
theorem dX6_join_19 : decode cX6_join 19 = .ok (.iload_n 1, 1) := by decide +kernel
theorem dX6_join_20 : decode cX6_join 20 = .ok (.iload_n 2, 1) := by decide +kernel
theorem dX6_join_21 : decode cX6_join 21 = .ok (.invokevirtual 62, 3) := by decide +kernel
theorem dX6_join_24 : decode cX6_join 24 = .ok (.ifCond .eq 13, 3) := by decide +kernel
theorem dX6_join_27 : decode cX6_join 27 = .ok (.aload_n 0, 1) := by decide +kernel
theorem dX6_join_28 : decode cX6_join 28 = .ok (.iload_n 1, 1) := by decide +kernel
theorem dX6_join_29 : decode cX6_join 29 = .ok (.iload_n 2, 1) := by decide +kernel
theorem dX6_join_30 : decode cX6_join 30 = .ok (.iload_n 3, 1) := by decide +kernel
theorem dX6_join_31 : decode cX6_join 31 = .ok (.invokevirtual 121, 3) := by decide +kernel
theorem dX6_join_34 : decode cX6_join 34 = .ok (.ifCond .eq 6, 3) := by decide +kernel
theorem dX6_join_37 : decode cX6_join 37 = .ok (.bipush (-2), 2) := by decide +kernel
theorem dX6_join_39 : decode cX6_join 39 = .ok (.ireturn, 1) := by decide +kernel
theorem dX6_join_40 : decode cX6_join 40 = .ok (.aload_n 0, 1) := by decide +kernel
theorem dX6_join_41 : decode cX6_join 41 = .ok (.invokevirtual 69, 3) := by decide +kernel
theorem dX6_join_44 : decode cX6_join 44 = .ok (.iload_n 1, 1) := by decide +kernel
theorem dX6_join_45 : decode cX6_join 45 = .ok (.iload_n 2, 1) := by decide +kernel
theorem dX6_join_46 : decode cX6_join 46 = .ok (.invokestatic 58, 3) := by decide +kernel
theorem dX6_join_49 : decode cX6_join 49 = .ok (.istore 4, 2) := by decide +kernel
theorem dX6_join_51 : decode cX6_join 51 = .ok (.aload_n 0, 1) := by decide +kernel
theorem dX6_join_52 : decode cX6_join 52 = .ok (.iload_n 1, 1) := by decide +kernel
theorem dX6_join_53 : decode cX6_join 53 = .ok (.iload_n 3, 1) := by decide +kernel
theorem dX6_join_54 : decode cX6_join 54 = .ok (.invokevirtual 124, 3) := by decide +kernel
theorem dX6_join_57 : decode cX6_join 57 = .ok (.ifCond .ne 37, 3) := by decide +kernel
theorem dX6_join_60 : decode cX6_join 60 = .ok (.aload_n 0, 1) := by decide +kernel
theorem dX6_join_61 : decode cX6_join 61 = .ok (.aload_n 0, 1) := by decide +kernel
theorem dX6_join_62 : decode cX6_join 62 = .ok (.iload_n 1, 1) := by decide +kernel
theorem dX6_join_63 : decode cX6_join 63 = .ok (.invokevirtual 54, 3) := by decide +kernel
theorem dX6_join_66 : decode cX6_join 66 = .ok (.iload_n 3, 1) := by decide +kernel
theorem dX6_join_67 : decode cX6_join 67 = .ok (.aload_n 0, 1) := by decide +kernel
theorem dX6_join_68 : decode cX6_join 68 = .ok (.getfield 7, 3) := by decide +kernel
theorem dX6_join_71 : decode cX6_join 71 = .ok (.iconst 1, 1) := by decide +kernel
theorem dX6_join_72 : decode cX6_join 72 = .ok (.iaload, 1) := by decide +kernel
theorem dX6_join_73 : decode cX6_join 73 = .ok (.iconst 0, 1) := by decide +kernel
theorem dX6_join_74 : decode cX6_join 74 = .ok (.invokevirtual 85, 3) := by decide +kernel
theorem dX6_join_77 : decode cX6_join 77 = .ok (.aload_n 0, 1) := by decide +kernel
theorem dX6_join_78 : decode cX6_join 78 = .ok (.getfield 7, 3) := by decide +kernel
theorem dX6_join_81 : decode cX6_join 81 = .ok (.sipush 130, 3) := by decide +kernel
theorem dX6_join_84 : decode cX6_join 84 = .ok (.iload 4, 2) := by decide +kernel
theorem dX6_join_86 : decode cX6_join 86 = .ok (.iadd, 1) := by decide +kernel
theorem dX6_join_87 : decode cX6_join 87 = .ok (.dup2, 1) := by decide +kernel
theorem dX6_join_88 : decode cX6_join 88 = .ok (.iaload, 1) := by decide +kernel
theorem dX6_join_89 : decode cX6_join 89 = .ok (.iconst 1, 1) := by decide +kernel
theorem dX6_join_90 : decode cX6_join 90 = .ok (.iload_n 3, 1) := by decide +kernel
theorem dX6_join_91 : decode cX6_join 91 = .ok (.ishl, 1) := by decide +kernel
theorem dX6_join_92 : decode cX6_join 92 = .ok (.ior, 1) := by decide +kernel
theorem dX6_join_93 : decode cX6_join 93 = .ok (.iastore, 1) := by decide +kernel
theorem dX6_join_94 : decode cX6_join 94 = .ok (.aload_n 0, 1) := by decide +kernel
theorem dX6_join_95 : decode cX6_join 95 = .ok (.getfield 7, 3) := by decide +kernel
theorem dX6_join_98 : decode cX6_join 98 = .ok (.bipush 70, 2) := by decide +kernel
theorem dX6_join_100 : decode cX6_join 100 = .ok (.iload 4, 2) := by decide +kernel
theorem dX6_join_102 : decode cX6_join 102 = .ok (.iadd, 1) := by decide +kernel
theorem dX6_join_103 : decode cX6_join 103 = .ok (.dup2, 1) := by decide +kernel
theorem dX6_join_104 : decode cX6_join 104 = .ok (.iaload, 1) := by decide +kernel
theorem dX6_join_105 : decode cX6_join 105 = .ok (.iconst 1, 1) := by decide +kernel
theorem dX6_join_106 : decode cX6_join 106 = .ok (.iload_n 3, 1) := by decide +kernel
theorem dX6_join_107 : decode cX6_join 107 = .ok (.ishl, 1) := by decide +kernel
theorem dX6_join_108 : decode cX6_join 108 = .ok (.ior, 1) := by decide +kernel
theorem dX6_join_109 : decode cX6_join 109 = .ok (.iastore, 1) := by decide +kernel
theorem dX6_join_110 : decode cX6_join 110 = .ok (.aload_n 0, 1) := by decide +kernel
theorem dX6_join_111 : decode cX6_join 111 = .ok (.iload_n 1, 1) := by decide +kernel
theorem dX6_join_112 : decode cX6_join 112 = .ok (.iload_n 3, 1) := by decide +kernel
theorem dX6_join_113 : decode cX6_join 113 = .ok (.invokevirtual 124, 3) := by decide +kernel
theorem dX6_join_116 : decode cX6_join 116 = .ok (.ireturn, 1) := by decide +kernel
theorem dX6_leave_0 : decode cX6_leave 0 = .ok (.aload_n 0, 1) := by decide +kernel
theorem dX6_leave_1 : decode cX6_leave 1 = .ok (.getfield 7, 3) := by decide +kernel
theorem dX6_leave_4 : decode cX6_leave 4 = .ok (.bipush 70, 2) := by decide +kernel
theorem dX6_leave_6 : decode cX6_leave 6 = .ok (.iload_n 1, 1) := by decide +kernel
theorem dX6_leave_7 : decode cX6_leave 7 = .ok (.iload_n 2, 1) := by decide +kernel
theorem dX6_leave_8 : decode cX6_leave 8 = .ok (.invokestatic 58, 3) := by decide +kernel
theorem dX6_leave_11 : decode cX6_leave 11 = .ok (.iadd, 1) := by decide +kernel
theorem dX6_leave_12 : decode cX6_leave 12 = .ok (.dup2, 1) := by decide +kernel
theorem dX6_leave_13 : decode cX6_leave 13 = .ok (.iaload, 1) := by decide +kernel
theorem dX6_leave_14 : decode cX6_leave 14 = .ok (.iconst 1, 1) := by decide +kernel
theorem dX6_leave_15 : decode cX6_leave 15 = .ok (.iload_n 3, 1) := by decide +kernel
theorem dX6_leave_16 : decode cX6_leave 16 = .ok (.ishl, 1) := by decide +kernel
theorem dX6_leave_17 : decode cX6_leave 17 = .ok (.iconst (-1), 1) := by decide +kernel
theorem dX6_leave_18 : decode cX6_leave 18 = .ok (.ixor, 1) := by decide +kernel
theorem dX6_leave_19 : decode cX6_leave 19 = .ok (.iand, 1) := by decide +kernel
theorem dX6_leave_20 : decode cX6_leave 20 = .ok (.iastore, 1) := by decide +kernel
theorem dX6_leave_21 : decode cX6_leave 21 = .ok (.aload_n 0, 1) := by decide +kernel
theorem dX6_leave_22 : decode cX6_leave 22 = .ok (.getfield 7, 3) := by decide +kernel
theorem dX6_leave_25 : decode cX6_leave 25 = .ok (.sipush 130, 3) := by decide +kernel
theorem dX6_leave_28 : decode cX6_leave 28 = .ok (.iload_n 1, 1) := by decide +kernel
theorem dX6_leave_29 : decode cX6_leave 29 = .ok (.iload_n 2, 1) := by decide +kernel
theorem dX6_leave_30 : decode cX6_leave 30 = .ok (.invokestatic 58, 3) := by decide +kernel
theorem dX6_leave_33 : decode cX6_leave 33 = .ok (.iadd, 1) := by decide +kernel
theorem dX6_leave_34 : decode cX6_leave 34 = .ok (.dup2, 1) := by decide +kernel
theorem dX6_leave_35 : decode cX6_leave 35 = .ok (.iaload, 1) := by decide +kernel
theorem dX6_leave_36 : decode cX6_leave 36 = .ok (.iconst 1, 1) := by decide +kernel
theorem dX6_leave_37 : decode cX6_leave 37 = .ok (.iload_n 3, 1) := by decide +kernel
theorem dX6_leave_38 : decode cX6_leave 38 = .ok (.ishl, 1) := by decide +kernel
theorem dX6_leave_39 : decode cX6_leave 39 = .ok (.iconst (-1), 1) := by decide +kernel
theorem dX6_leave_40 : decode cX6_leave 40 = .ok (.ixor, 1) := by decide +kernel
theorem dX6_leave_41 : decode cX6_leave 41 = .ok (.iand, 1) := by decide +kernel
theorem dX6_leave_42 : decode cX6_leave 42 = .ok (.iastore, 1) := by decide +kernel
theorem dX6_leave_43 : decode cX6_leave 43 = .ok (.return_, 1) := by decide +kernel
theorem dX6_part_0 : decode cX6_part 0 = .ok (.aload_n 0, 1) := by decide +kernel
theorem dX6_part_1 : decode cX6_part 1 = .ok (.iload_n 1, 1) := by decide +kernel
theorem dX6_part_2 : decode cX6_part 2 = .ok (.iload_n 2, 1) := by decide +kernel
theorem dX6_part_3 : decode cX6_part 3 = .ok (.invokevirtual 115, 3) := by decide +kernel
theorem dX6_part_6 : decode cX6_part 6 = .ok (.ifCond .eq 10, 3) := by decide +kernel
theorem dX6_part_9 : decode cX6_part 9 = .ok (.iload_n 3, 1) := by decide +kernel
theorem dX6_part_10 : decode cX6_part 10 = .ok (.invokestatic 118, 3) := by decide +kernel
theorem dX6_part_13 : decode cX6_part 13 = .ok (.ifCond .ne 5, 3) := by decide +kernel
theorem dX6_part_16 : decode cX6_part 16 = .ok (.iconst (-1), 1) := by decide +kernel
theorem dX6_part_17 : decode cX6_part 17 = .ok (.ireturn, 1) := by decide +kernel
theorem dX6_part_18 : decode cX6_part 18 = .ok (.aload_n 0, 1) := by decide +kernel
theorem dX6_part_19 : decode cX6_part 19 = .ok (.iload_n 1, 1) := by decide +kernel
theorem dX6_part_20 : decode cX6_part 20 = .ok (.iload_n 2, 1) := by decide +kernel
theorem dX6_part_21 : decode cX6_part 21 = .ok (.iload_n 3, 1) := by decide +kernel
theorem dX6_part_22 : decode cX6_part 22 = .ok (.invokevirtual 121, 3) := by decide +kernel
theorem dX6_part_25 : decode cX6_part 25 = .ok (.ifCond .ne 6, 3) := by decide +kernel
theorem dX6_part_28 : decode cX6_part 28 = .ok (.bipush (-2), 2) := by decide +kernel
theorem dX6_part_30 : decode cX6_part 30 = .ok (.ireturn, 1) := by decide +kernel
theorem dX6_part_31 : decode cX6_part 31 = .ok (.aload_n 0, 1) := by decide +kernel
theorem dX6_part_32 : decode cX6_part 32 = .ok (.invokevirtual 69, 3) := by decide +kernel
theorem dX6_part_35 : decode cX6_part 35 = .ok (.aload_n 0, 1) := by decide +kernel
theorem dX6_part_36 : decode cX6_part 36 = .ok (.iload_n 1, 1) := by decide +kernel
theorem dX6_part_37 : decode cX6_part 37 = .ok (.iload_n 2, 1) := by decide +kernel
theorem dX6_part_38 : decode cX6_part 38 = .ok (.iload_n 3, 1) := by decide +kernel
theorem dX6_part_39 : decode cX6_part 39 = .ok (.invokevirtual 127, 3) := by decide +kernel
theorem dX6_part_42 : decode cX6_part 42 = .ok (.aload_n 0, 1) := by decide +kernel
theorem dX6_part_43 : decode cX6_part 43 = .ok (.iload_n 1, 1) := by decide +kernel
theorem dX6_part_44 : decode cX6_part 44 = .ok (.iload_n 3, 1) := by decide +kernel
theorem dX6_part_45 : decode cX6_part 45 = .ok (.invokevirtual 124, 3) := by decide +kernel
theorem dX6_part_48 : decode cX6_part 48 = .ok (.ireturn, 1) := by decide +kernel
theorem dX6_kick_0 : decode cX6_kick 0 = .ok (.aload_n 0, 1) := by decide +kernel
theorem dX6_kick_1 : decode cX6_kick 1 = .ok (.iload_n 1, 1) := by decide +kernel
theorem dX6_kick_2 : decode cX6_kick 2 = .ok (.iload_n 2, 1) := by decide +kernel
theorem dX6_kick_3 : decode cX6_kick 3 = .ok (.invokevirtual 115, 3) := by decide +kernel
theorem dX6_kick_6 : decode cX6_kick 6 = .ok (.ifCond .eq 18, 3) := by decide +kernel
theorem dX6_kick_9 : decode cX6_kick 9 = .ok (.iload_n 3, 1) := by decide +kernel
theorem dX6_kick_10 : decode cX6_kick 10 = .ok (.invokestatic 118, 3) := by decide +kernel
theorem dX6_kick_13 : decode cX6_kick 13 = .ok (.ifCond .eq 11, 3) := by decide +kernel
theorem dX6_kick_16 : decode cX6_kick 16 = .ok (.iload 4, 2) := by decide +kernel
theorem dX6_kick_18 : decode cX6_kick 18 = .ok (.invokestatic 112, 3) := by decide +kernel
theorem dX6_kick_21 : decode cX6_kick 21 = .ok (.ifCond .ne 5, 3) := by decide +kernel
theorem dX6_kick_24 : decode cX6_kick 24 = .ok (.iconst (-1), 1) := by decide +kernel
theorem dX6_kick_25 : decode cX6_kick 25 = .ok (.ireturn, 1) := by decide +kernel
theorem dX6_kick_26 : decode cX6_kick 26 = .ok (.aload_n 0, 1) := by decide +kernel
theorem dX6_kick_27 : decode cX6_kick 27 = .ok (.iload_n 1, 1) := by decide +kernel
theorem dX6_kick_28 : decode cX6_kick 28 = .ok (.iload_n 2, 1) := by decide +kernel
theorem dX6_kick_29 : decode cX6_kick 29 = .ok (.iload_n 3, 1) := by decide +kernel
theorem dX6_kick_30 : decode cX6_kick 30 = .ok (.invokevirtual 130, 3) := by decide +kernel
theorem dX6_kick_33 : decode cX6_kick 33 = .ok (.ifCond .eq 21, 3) := by decide +kernel
theorem dX6_kick_36 : decode cX6_kick 36 = .ok (.aload_n 0, 1) := by decide +kernel
theorem dX6_kick_37 : decode cX6_kick 37 = .ok (.aload_n 0, 1) := by decide +kernel
theorem dX6_kick_38 : decode cX6_kick 38 = .ok (.iload_n 1, 1) := by decide +kernel
theorem dX6_kick_39 : decode cX6_kick 39 = .ok (.invokevirtual 54, 3) := by decide +kernel
theorem dX6_kick_42 : decode cX6_kick 42 = .ok (.iload_n 3, 1) := by decide +kernel
theorem dX6_kick_43 : decode cX6_kick 43 = .ok (.invokevirtual 82, 3) := by decide +kernel
theorem dX6_kick_46 : decode cX6_kick 46 = .ok (.iload 4, 2) := by decide +kernel
theorem dX6_kick_48 : decode cX6_kick 48 = .ok (.invokestatic 50, 3) := by decide +kernel
theorem dX6_kick_51 : decode cX6_kick 51 = .ok (.ifCond .ne 6, 3) := by decide +kernel
theorem dX6_kick_54 : decode cX6_kick 54 = .ok (.bipush (-2), 2) := by decide +kernel
theorem dX6_kick_56 : decode cX6_kick 56 = .ok (.ireturn, 1) := by decide +kernel
theorem dX6_kick_57 : decode cX6_kick 57 = .ok (.aload_n 0, 1) := by decide +kernel
theorem dX6_kick_58 : decode cX6_kick 58 = .ok (.invokevirtual 69, 3) := by decide +kernel
theorem dX6_kick_61 : decode cX6_kick 61 = .ok (.aload_n 0, 1) := by decide +kernel
theorem dX6_kick_62 : decode cX6_kick 62 = .ok (.aload_n 0, 1) := by decide +kernel
theorem dX6_kick_63 : decode cX6_kick 63 = .ok (.aload_n 0, 1) := by decide +kernel
theorem dX6_kick_64 : decode cX6_kick 64 = .ok (.iload_n 1, 1) := by decide +kernel
theorem dX6_kick_65 : decode cX6_kick 65 = .ok (.invokevirtual 54, 3) := by decide +kernel
theorem dX6_kick_68 : decode cX6_kick 68 = .ok (.iload 4, 2) := by decide +kernel
theorem dX6_kick_70 : decode cX6_kick 70 = .ok (.invokevirtual 72, 3) := by decide +kernel
theorem dX6_kick_73 : decode cX6_kick 73 = .ok (.iload 4, 2) := by decide +kernel
theorem dX6_kick_75 : decode cX6_kick 75 = .ok (.iload_n 3, 1) := by decide +kernel
theorem dX6_kick_76 : decode cX6_kick 76 = .ok (.invokevirtual 127, 3) := by decide +kernel
theorem dX6_kick_79 : decode cX6_kick 79 = .ok (.aload_n 0, 1) := by decide +kernel
theorem dX6_kick_80 : decode cX6_kick 80 = .ok (.iload_n 1, 1) := by decide +kernel
theorem dX6_kick_81 : decode cX6_kick 81 = .ok (.iload_n 3, 1) := by decide +kernel
theorem dX6_kick_82 : decode cX6_kick 82 = .ok (.invokevirtual 124, 3) := by decide +kernel
theorem dX6_kick_85 : decode cX6_kick 85 = .ok (.ireturn, 1) := by decide +kernel
theorem dX6_appendCharacter_0 : decode cX6_appendCharacter 0 = .ok (.iload_n 1, 1) := by decide +kernel
theorem dX6_appendCharacter_1 : decode cX6_appendCharacter 1 = .ok (.iconst 0, 1) := by decide +kernel
theorem dX6_appendCharacter_2 : decode cX6_appendCharacter 2 = .ok (.sipush 255, 3) := by decide +kernel
theorem dX6_appendCharacter_5 : decode cX6_appendCharacter 5 = .ok (.invokestatic 42, 3) := by decide +kernel
theorem dX6_appendCharacter_8 : decode cX6_appendCharacter 8 = .ok (.ifCond .ne 5, 3) := by decide +kernel
theorem dX6_appendCharacter_11 : decode cX6_appendCharacter 11 = .ok (.iconst (-1), 1) := by decide +kernel
theorem dX6_appendCharacter_12 : decode cX6_appendCharacter 12 = .ok (.ireturn, 1) := by decide +kernel
theorem dX6_appendCharacter_13 : decode cX6_appendCharacter 13 = .ok (.aload_n 0, 1) := by decide +kernel
theorem dX6_appendCharacter_14 : decode cX6_appendCharacter 14 = .ok (.getfield 133, 3) := by decide +kernel
theorem dX6_appendCharacter_17 : decode cX6_appendCharacter 17 = .ok (.bipush 40, 2) := by decide +kernel
theorem dX6_appendCharacter_19 : decode cX6_appendCharacter 19 = .ok (.if_icmp .ne 6, 3) := by decide +kernel
theorem dX6_appendCharacter_22 : decode cX6_appendCharacter 22 = .ok (.bipush (-3), 2) := by decide +kernel
theorem dX6_appendCharacter_24 : decode cX6_appendCharacter 24 = .ok (.ireturn, 1) := by decide +kernel
theorem dX6_appendCharacter_25 : decode cX6_appendCharacter 25 = .ok (.aload_n 0, 1) := by decide +kernel
theorem dX6_appendCharacter_26 : decode cX6_appendCharacter 26 = .ok (.getfield 16, 3) := by decide +kernel
theorem dX6_appendCharacter_29 : decode cX6_appendCharacter 29 = .ok (.aload_n 0, 1) := by decide +kernel
theorem dX6_appendCharacter_30 : decode cX6_appendCharacter 30 = .ok (.getfield 133, 3) := by decide +kernel
theorem dX6_appendCharacter_33 : decode cX6_appendCharacter 33 = .ok (.iload_n 1, 1) := by decide +kernel
theorem dX6_appendCharacter_34 : decode cX6_appendCharacter 34 = .ok (.iastore, 1) := by decide +kernel
theorem dX6_appendCharacter_35 : decode cX6_appendCharacter 35 = .ok (.aload_n 0, 1) := by decide +kernel
theorem dX6_appendCharacter_36 : decode cX6_appendCharacter 36 = .ok (.dup, 1) := by decide +kernel
theorem dX6_appendCharacter_37 : decode cX6_appendCharacter 37 = .ok (.getfield 133, 3) := by decide +kernel
theorem dX6_appendCharacter_40 : decode cX6_appendCharacter 40 = .ok (.iconst 1, 1) := by decide +kernel
theorem dX6_appendCharacter_41 : decode cX6_appendCharacter 41 = .ok (.iadd, 1) := by decide +kernel
theorem dX6_appendCharacter_42 : decode cX6_appendCharacter 42 = .ok (.putfield 133, 3) := by decide +kernel
theorem dX6_appendCharacter_45 : decode cX6_appendCharacter 45 = .ok (.aload_n 0, 1) := by decide +kernel
theorem dX6_appendCharacter_46 : decode cX6_appendCharacter 46 = .ok (.getfield 133, 3) := by decide +kernel
theorem dX6_appendCharacter_49 : decode cX6_appendCharacter 49 = .ok (.ireturn, 1) := by decide +kernel
theorem dX6_clearText_0 : decode cX6_clearText 0 = .ok (.aload_n 0, 1) := by decide +kernel
theorem dX6_clearText_1 : decode cX6_clearText 1 = .ok (.getfield 133, 3) := by decide +kernel
theorem dX6_clearText_4 : decode cX6_clearText 4 = .ok (.istore_n 1, 1) := by decide +kernel
theorem dX6_clearText_5 : decode cX6_clearText 5 = .ok (.aload_n 0, 1) := by decide +kernel
theorem dX6_clearText_6 : decode cX6_clearText 6 = .ok (.iconst 0, 1) := by decide +kernel
theorem dX6_clearText_7 : decode cX6_clearText 7 = .ok (.putfield 133, 3) := by decide +kernel
theorem dX6_clearText_10 : decode cX6_clearText 10 = .ok (.iload_n 1, 1) := by decide +kernel
theorem dX6_clearText_11 : decode cX6_clearText 11 = .ok (.ireturn, 1) := by decide +kernel
theorem dX6_modeOf_0 : decode cX6_modeOf 0 = .ok (.iload_n 0, 1) := by decide +kernel
theorem dX6_modeOf_1 : decode cX6_modeOf 1 = .ok (.tableswitch 75 105 116 #[63, 75, 75, 75, 65, 67, 75, 69, 75, 75, 71, 73], 63) := by decide +kernel
theorem dX6_modeOf_64 : decode cX6_modeOf 64 = .ok (.iconst 0, 1) := by decide +kernel
theorem dX6_modeOf_65 : decode cX6_modeOf 65 = .ok (.ireturn, 1) := by decide +kernel
theorem dX6_modeOf_66 : decode cX6_modeOf 66 = .ok (.iconst 1, 1) := by decide +kernel
theorem dX6_modeOf_67 : decode cX6_modeOf 67 = .ok (.ireturn, 1) := by decide +kernel
theorem dX6_modeOf_68 : decode cX6_modeOf 68 = .ok (.iconst 2, 1) := by decide +kernel
theorem dX6_modeOf_69 : decode cX6_modeOf 69 = .ok (.ireturn, 1) := by decide +kernel
theorem dX6_modeOf_70 : decode cX6_modeOf 70 = .ok (.iconst 3, 1) := by decide +kernel
theorem dX6_modeOf_71 : decode cX6_modeOf 71 = .ok (.ireturn, 1) := by decide +kernel
theorem dX6_modeOf_72 : decode cX6_modeOf 72 = .ok (.iconst 4, 1) := by decide +kernel
theorem dX6_modeOf_73 : decode cX6_modeOf 73 = .ok (.ireturn, 1) := by decide +kernel
theorem dX6_modeOf_74 : decode cX6_modeOf 74 = .ok (.iconst 5, 1) := by decide +kernel
theorem dX6_modeOf_75 : decode cX6_modeOf 75 = .ok (.ireturn, 1) := by decide +kernel
theorem dX6_modeOf_76 : decode cX6_modeOf 76 = .ok (.bipush (-9), 2) := by decide +kernel
theorem dX6_modeOf_78 : decode cX6_modeOf 78 = .ok (.ireturn, 1) := by decide +kernel
theorem dX6_isSign_0 : decode cX6_isSign 0 = .ok (.iload_n 0, 1) := by decide +kernel
theorem dX6_isSign_1 : decode cX6_isSign 1 = .ok (.bipush 43, 2) := by decide +kernel
theorem dX6_isSign_3 : decode cX6_isSign 3 = .ok (.if_icmp .eq 9, 3) := by decide +kernel
theorem dX6_isSign_6 : decode cX6_isSign 6 = .ok (.iload_n 0, 1) := by decide +kernel
theorem dX6_isSign_7 : decode cX6_isSign 7 = .ok (.bipush 45, 2) := by decide +kernel
theorem dX6_isSign_9 : decode cX6_isSign 9 = .ok (.if_icmp .ne 7, 3) := by decide +kernel
theorem dX6_isSign_12 : decode cX6_isSign 12 = .ok (.iconst 1, 1) := by decide +kernel
theorem dX6_isSign_13 : decode cX6_isSign 13 = .ok (.goto 4, 3) := by decide +kernel
theorem dX6_isSign_16 : decode cX6_isSign 16 = .ok (.iconst 0, 1) := by decide +kernel
theorem dX6_isSign_17 : decode cX6_isSign 17 = .ok (.ireturn, 1) := by decide +kernel
theorem dX6_check_0 : decode cX6_check 0 = .ok (.aload_n 0, 1) := by decide +kernel
theorem dX6_check_1 : decode cX6_check 1 = .ok (.iconst 0, 1) := by decide +kernel
theorem dX6_check_2 : decode cX6_check 2 = .ok (.putfield 136, 3) := by decide +kernel
theorem dX6_check_5 : decode cX6_check 5 = .ok (.iconst 1, 1) := by decide +kernel
theorem dX6_check_6 : decode cX6_check 6 = .ok (.istore_n 2, 1) := by decide +kernel
theorem dX6_check_7 : decode cX6_check 7 = .ok (.iconst 0, 1) := by decide +kernel
theorem dX6_check_8 : decode cX6_check 8 = .ok (.istore_n 3, 1) := by decide +kernel
theorem dX6_check_9 : decode cX6_check 9 = .ok (.iconst 0, 1) := by decide +kernel
theorem dX6_check_10 : decode cX6_check 10 = .ok (.istore 4, 2) := by decide +kernel
theorem dX6_check_12 : decode cX6_check 12 = .ok (.iload 4, 2) := by decide +kernel
theorem dX6_check_14 : decode cX6_check 14 = .ok (.aload_n 0, 1) := by decide +kernel
theorem dX6_check_15 : decode cX6_check 15 = .ok (.getfield 133, 3) := by decide +kernel
theorem dX6_check_18 : decode cX6_check 18 = .ok (.if_icmp .ge 158, 3) := by decide +kernel
theorem dX6_check_21 : decode cX6_check 21 = .ok (.aload_n 0, 1) := by decide +kernel
theorem dX6_check_22 : decode cX6_check 22 = .ok (.getfield 16, 3) := by decide +kernel
theorem dX6_check_25 : decode cX6_check 25 = .ok (.iload 4, 2) := by decide +kernel
theorem dX6_check_27 : decode cX6_check 27 = .ok (.iaload, 1) := by decide +kernel
theorem dX6_check_28 : decode cX6_check 28 = .ok (.istore 5, 2) := by decide +kernel
theorem dX6_check_30 : decode cX6_check 30 = .ok (.iload 5, 2) := by decide +kernel
theorem dX6_check_32 : decode cX6_check 32 = .ok (.invokestatic 139, 3) := by decide +kernel
theorem dX6_check_35 : decode cX6_check 35 = .ok (.ifCond .eq 14, 3) := by decide +kernel
theorem dX6_check_38 : decode cX6_check 38 = .ok (.iload_n 2, 1) := by decide +kernel
theorem dX6_check_39 : decode cX6_check 39 = .ok (.ifCond .eq 10, 3) := by decide +kernel
theorem dX6_check_42 : decode cX6_check 42 = .ok (.iconst 0, 1) := by decide +kernel
theorem dX6_check_43 : decode cX6_check 43 = .ok (.istore_n 2, 1) := by decide +kernel
theorem dX6_check_44 : decode cX6_check 44 = .ok (.iconst 1, 1) := by decide +kernel
theorem dX6_check_45 : decode cX6_check 45 = .ok (.istore_n 3, 1) := by decide +kernel
theorem dX6_check_46 : decode cX6_check 46 = .ok (.goto 124, 3) := by decide +kernel
theorem dX6_check_49 : decode cX6_check 49 = .ok (.iload_n 3, 1) := by decide +kernel
theorem dX6_check_50 : decode cX6_check 50 = .ok (.ifCond .eq 117, 3) := by decide +kernel
theorem dX6_check_53 : decode cX6_check 53 = .ok (.iload 5, 2) := by decide +kernel
theorem dX6_check_55 : decode cX6_check 55 = .ok (.bipush 111, 2) := by decide +kernel
theorem dX6_check_57 : decode cX6_check 57 = .ok (.if_icmp .eq 13, 3) := by decide +kernel
theorem dX6_check_60 : decode cX6_check 60 = .ok (.iload 5, 2) := by decide +kernel
theorem dX6_check_62 : decode cX6_check 62 = .ok (.invokestatic 142, 3) := by decide +kernel
theorem dX6_check_65 : decode cX6_check 65 = .ok (.bipush (-9), 2) := by decide +kernel
theorem dX6_check_67 : decode cX6_check 67 = .ok (.if_icmp .eq 100, 3) := by decide +kernel
theorem dX6_check_70 : decode cX6_check 70 = .ok (.iload 4, 2) := by decide +kernel
theorem dX6_check_72 : decode cX6_check 72 = .ok (.iload 5, 2) := by decide +kernel
theorem dX6_check_74 : decode cX6_check 74 = .ok (.bipush 111, 2) := by decide +kernel
theorem dX6_check_76 : decode cX6_check 76 = .ok (.if_icmp .ne 7, 3) := by decide +kernel
theorem dX6_check_79 : decode cX6_check 79 = .ok (.iconst 1, 1) := by decide +kernel
theorem dX6_check_80 : decode cX6_check 80 = .ok (.goto 4, 3) := by decide +kernel
theorem dX6_check_83 : decode cX6_check 83 = .ok (.iconst 0, 1) := by decide +kernel
theorem dX6_check_84 : decode cX6_check 84 = .ok (.iadd, 1) := by decide +kernel
theorem dX6_check_85 : decode cX6_check 85 = .ok (.istore 4, 2) := by decide +kernel
theorem dX6_check_87 : decode cX6_check 87 = .ok (.iload 5, 2) := by decide +kernel
theorem dX6_check_89 : decode cX6_check 89 = .ok (.bipush 111, 2) := by decide +kernel
theorem dX6_check_91 : decode cX6_check 91 = .ok (.if_icmp .ne 46, 3) := by decide +kernel
theorem dX6_check_94 : decode cX6_check 94 = .ok (.iload 4, 2) := by decide +kernel
theorem dX6_check_96 : decode cX6_check 96 = .ok (.aload_n 0, 1) := by decide +kernel
theorem dX6_check_97 : decode cX6_check 97 = .ok (.getfield 133, 3) := by decide +kernel
theorem dX6_check_100 : decode cX6_check 100 = .ok (.if_icmp .ge 41, 3) := by decide +kernel
theorem dX6_check_103 : decode cX6_check 103 = .ok (.aload_n 0, 1) := by decide +kernel
theorem dX6_check_104 : decode cX6_check 104 = .ok (.getfield 16, 3) := by decide +kernel
theorem dX6_check_107 : decode cX6_check 107 = .ok (.iload 4, 2) := by decide +kernel
theorem dX6_check_109 : decode cX6_check 109 = .ok (.iaload, 1) := by decide +kernel
theorem dX6_check_110 : decode cX6_check 110 = .ok (.bipush 48, 2) := by decide +kernel
theorem dX6_check_112 : decode cX6_check 112 = .ok (.bipush 57, 2) := by decide +kernel
theorem dX6_check_114 : decode cX6_check 114 = .ok (.invokestatic 42, 3) := by decide +kernel
theorem dX6_check_117 : decode cX6_check 117 = .ok (.ifCond .eq 24, 3) := by decide +kernel
theorem dX6_check_120 : decode cX6_check 120 = .ok (.iload_n 1, 1) := by decide +kernel
theorem dX6_check_121 : decode cX6_check 121 = .ok (.aload_n 0, 1) := by decide +kernel
theorem dX6_check_122 : decode cX6_check 122 = .ok (.getfield 16, 3) := by decide +kernel
theorem dX6_check_125 : decode cX6_check 125 = .ok (.iload 4, 2) := by decide +kernel
theorem dX6_check_127 : decode cX6_check 127 = .ok (.iaload, 1) := by decide +kernel
theorem dX6_check_128 : decode cX6_check 128 = .ok (.bipush 48, 2) := by decide +kernel
theorem dX6_check_130 : decode cX6_check 130 = .ok (.isub, 1) := by decide +kernel
theorem dX6_check_131 : decode cX6_check 131 = .ok (.invokestatic 50, 3) := by decide +kernel
theorem dX6_check_134 : decode cX6_check 134 = .ok (.ifCond .eq 7, 3) := by decide +kernel
theorem dX6_check_137 : decode cX6_check 137 = .ok (.iconst 1, 1) := by decide +kernel
theorem dX6_check_138 : decode cX6_check 138 = .ok (.goto 4, 3) := by decide +kernel
theorem dX6_check_141 : decode cX6_check 141 = .ok (.iconst 0, 1) := by decide +kernel
theorem dX6_check_142 : decode cX6_check 142 = .ok (.istore 6, 2) := by decide +kernel
theorem dX6_check_144 : decode cX6_check 144 = .ok (.iload 6, 2) := by decide +kernel
theorem dX6_check_146 : decode cX6_check 146 = .ok (.ifCond .ne 6, 3) := by decide +kernel
theorem dX6_check_149 : decode cX6_check 149 = .ok (.iload 4, 2) := by decide +kernel
theorem dX6_check_151 : decode cX6_check 151 = .ok (.ireturn, 1) := by decide +kernel
theorem dX6_check_152 : decode cX6_check 152 = .ok (.iconst 1, 1) := by decide +kernel
theorem dX6_check_153 : decode cX6_check 153 = .ok (.istore_n 2, 1) := by decide +kernel
theorem dX6_check_154 : decode cX6_check 154 = .ok (.aload_n 0, 1) := by decide +kernel
theorem dX6_check_155 : decode cX6_check 155 = .ok (.dup, 1) := by decide +kernel
theorem dX6_check_156 : decode cX6_check 156 = .ok (.getfield 136, 3) := by decide +kernel
theorem dX6_check_159 : decode cX6_check 159 = .ok (.iconst 1, 1) := by decide +kernel
theorem dX6_check_160 : decode cX6_check 160 = .ok (.iadd, 1) := by decide +kernel
theorem dX6_check_161 : decode cX6_check 161 = .ok (.putfield 136, 3) := by decide +kernel
theorem dX6_check_164 : decode cX6_check 164 = .ok (.goto 6, 3) := by decide +kernel
theorem dX6_check_167 : decode cX6_check 167 = .ok (.iload 4, 2) := by decide +kernel
theorem dX6_check_169 : decode cX6_check 169 = .ok (.ireturn, 1) := by decide +kernel
theorem dX6_check_170 : decode cX6_check 170 = .ok (.iinc 4 1, 3) := by decide +kernel
theorem dX6_check_173 : decode cX6_check 173 = .ok (.goto (-161), 3) := by decide +kernel
theorem dX6_check_176 : decode cX6_check 176 = .ok (.aload_n 0, 1) := by decide +kernel
theorem dX6_check_177 : decode cX6_check 177 = .ok (.getfield 136, 3) := by decide +kernel
theorem dX6_check_180 : decode cX6_check 180 = .ok (.ifCond .le 12, 3) := by decide +kernel
theorem dX6_check_183 : decode cX6_check 183 = .ok (.iload_n 2, 1) := by decide +kernel
theorem dX6_check_184 : decode cX6_check 184 = .ok (.ifCond .eq 8, 3) := by decide +kernel
theorem dX6_check_187 : decode cX6_check 187 = .ok (.bipush (-9), 2) := by decide +kernel
theorem dX6_check_189 : decode cX6_check 189 = .ok (.goto 7, 3) := by decide +kernel
theorem dX6_check_192 : decode cX6_check 192 = .ok (.aload_n 0, 1) := by decide +kernel
theorem dX6_check_193 : decode cX6_check 193 = .ok (.getfield 133, 3) := by decide +kernel
theorem dX6_check_196 : decode cX6_check 196 = .ok (.ireturn, 1) := by decide +kernel
theorem dX6_setOperator_0 : decode cX6_setOperator 0 = .ok (.sipush 130, 3) := by decide +kernel
theorem dX6_setOperator_3 : decode cX6_setOperator 3 = .ok (.iload_n 1, 1) := by decide +kernel
theorem dX6_setOperator_4 : decode cX6_setOperator 4 = .ok (.iload_n 2, 1) := by decide +kernel
theorem dX6_setOperator_5 : decode cX6_setOperator 5 = .ok (.invokestatic 58, 3) := by decide +kernel
theorem dX6_setOperator_8 : decode cX6_setOperator 8 = .ok (.iadd, 1) := by decide +kernel
theorem dX6_setOperator_9 : decode cX6_setOperator 9 = .ok (.istore 5, 2) := by decide +kernel
theorem dX6_setOperator_11 : decode cX6_setOperator 11 = .ok (.aload_n 0, 1) := by decide +kernel
theorem dX6_setOperator_12 : decode cX6_setOperator 12 = .ok (.getfield 7, 3) := by decide +kernel
theorem dX6_setOperator_15 : decode cX6_setOperator 15 = .ok (.iload 5, 2) := by decide +kernel
theorem dX6_setOperator_17 : decode cX6_setOperator 17 = .ok (.aload_n 0, 1) := by decide +kernel
theorem dX6_setOperator_18 : decode cX6_setOperator 18 = .ok (.getfield 7, 3) := by decide +kernel
theorem dX6_setOperator_21 : decode cX6_setOperator 21 = .ok (.iload 5, 2) := by decide +kernel
theorem dX6_setOperator_23 : decode cX6_setOperator 23 = .ok (.iaload, 1) := by decide +kernel
theorem dX6_setOperator_24 : decode cX6_setOperator 24 = .ok (.iconst 1, 1) := by decide +kernel
theorem dX6_setOperator_25 : decode cX6_setOperator 25 = .ok (.iload_n 3, 1) := by decide +kernel
theorem dX6_setOperator_26 : decode cX6_setOperator 26 = .ok (.ishl, 1) := by decide +kernel
theorem dX6_setOperator_27 : decode cX6_setOperator 27 = .ok (.iconst (-1), 1) := by decide +kernel
theorem dX6_setOperator_28 : decode cX6_setOperator 28 = .ok (.ixor, 1) := by decide +kernel
theorem dX6_setOperator_29 : decode cX6_setOperator 29 = .ok (.iand, 1) := by decide +kernel
theorem dX6_setOperator_30 : decode cX6_setOperator 30 = .ok (.iload 4, 2) := by decide +kernel
theorem dX6_setOperator_32 : decode cX6_setOperator 32 = .ok (.ifCond .eq 9, 3) := by decide +kernel
theorem dX6_setOperator_35 : decode cX6_setOperator 35 = .ok (.iconst 1, 1) := by decide +kernel
theorem dX6_setOperator_36 : decode cX6_setOperator 36 = .ok (.iload_n 3, 1) := by decide +kernel
theorem dX6_setOperator_37 : decode cX6_setOperator 37 = .ok (.ishl, 1) := by decide +kernel
theorem dX6_setOperator_38 : decode cX6_setOperator 38 = .ok (.goto 4, 3) := by decide +kernel
theorem dX6_setOperator_41 : decode cX6_setOperator 41 = .ok (.iconst 0, 1) := by decide +kernel
theorem dX6_setOperator_42 : decode cX6_setOperator 42 = .ok (.ior, 1) := by decide +kernel
theorem dX6_setOperator_43 : decode cX6_setOperator 43 = .ok (.iastore, 1) := by decide +kernel
theorem dX6_setOperator_44 : decode cX6_setOperator 44 = .ok (.return_, 1) := by decide +kernel
theorem dX6_applyText_0 : decode cX6_applyText 0 = .ok (.aload_n 0, 1) := by decide +kernel
theorem dX6_applyText_1 : decode cX6_applyText 1 = .ok (.iload_n 1, 1) := by decide +kernel
theorem dX6_applyText_2 : decode cX6_applyText 2 = .ok (.invokevirtual 54, 3) := by decide +kernel
theorem dX6_applyText_5 : decode cX6_applyText 5 = .ok (.istore_n 3, 1) := by decide +kernel
theorem dX6_applyText_6 : decode cX6_applyText 6 = .ok (.aload_n 0, 1) := by decide +kernel
theorem dX6_applyText_7 : decode cX6_applyText 7 = .ok (.getfield 7, 3) := by decide +kernel
theorem dX6_applyText_10 : decode cX6_applyText 10 = .ok (.sipush 214, 3) := by decide +kernel
theorem dX6_applyText_13 : decode cX6_applyText 13 = .ok (.iconst 4, 1) := by decide +kernel
theorem dX6_applyText_14 : decode cX6_applyText 14 = .ok (.iload_n 1, 1) := by decide +kernel
theorem dX6_applyText_15 : decode cX6_applyText 15 = .ok (.imul, 1) := by decide +kernel
theorem dX6_applyText_16 : decode cX6_applyText 16 = .ok (.iadd, 1) := by decide +kernel
theorem dX6_applyText_17 : decode cX6_applyText 17 = .ok (.iload_n 2, 1) := by decide +kernel
theorem dX6_applyText_18 : decode cX6_applyText 18 = .ok (.iadd, 1) := by decide +kernel
theorem dX6_applyText_19 : decode cX6_applyText 19 = .ok (.iaload, 1) := by decide +kernel
theorem dX6_applyText_20 : decode cX6_applyText 20 = .ok (.istore 4, 2) := by decide +kernel
theorem dX6_applyText_22 : decode cX6_applyText 22 = .ok (.iconst 1, 1) := by decide +kernel
theorem dX6_applyText_23 : decode cX6_applyText 23 = .ok (.istore 5, 2) := by decide +kernel
theorem dX6_applyText_25 : decode cX6_applyText 25 = .ok (.iconst 0, 1) := by decide +kernel
theorem dX6_applyText_26 : decode cX6_applyText 26 = .ok (.istore 6, 2) := by decide +kernel
theorem dX6_applyText_28 : decode cX6_applyText 28 = .ok (.iload 6, 2) := by decide +kernel
theorem dX6_applyText_30 : decode cX6_applyText 30 = .ok (.aload_n 0, 1) := by decide +kernel
theorem dX6_applyText_31 : decode cX6_applyText 31 = .ok (.getfield 133, 3) := by decide +kernel
theorem dX6_applyText_34 : decode cX6_applyText 34 = .ok (.if_icmp .ge 124, 3) := by decide +kernel
theorem dX6_applyText_37 : decode cX6_applyText 37 = .ok (.aload_n 0, 1) := by decide +kernel
theorem dX6_applyText_38 : decode cX6_applyText 38 = .ok (.getfield 16, 3) := by decide +kernel
theorem dX6_applyText_41 : decode cX6_applyText 41 = .ok (.iload 6, 2) := by decide +kernel
theorem dX6_applyText_43 : decode cX6_applyText 43 = .ok (.iaload, 1) := by decide +kernel
theorem dX6_applyText_44 : decode cX6_applyText 44 = .ok (.istore 7, 2) := by decide +kernel
theorem dX6_applyText_46 : decode cX6_applyText 46 = .ok (.iload 7, 2) := by decide +kernel
theorem dX6_applyText_48 : decode cX6_applyText 48 = .ok (.invokestatic 142, 3) := by decide +kernel
theorem dX6_applyText_51 : decode cX6_applyText 51 = .ok (.istore 8, 2) := by decide +kernel
theorem dX6_applyText_53 : decode cX6_applyText 53 = .ok (.iload 7, 2) := by decide +kernel
theorem dX6_applyText_55 : decode cX6_applyText 55 = .ok (.invokestatic 139, 3) := by decide +kernel
theorem dX6_applyText_58 : decode cX6_applyText 58 = .ok (.ifCond .eq 18, 3) := by decide +kernel
theorem dX6_applyText_61 : decode cX6_applyText 61 = .ok (.iload 7, 2) := by decide +kernel
theorem dX6_applyText_63 : decode cX6_applyText 63 = .ok (.bipush 43, 2) := by decide +kernel
theorem dX6_applyText_65 : decode cX6_applyText 65 = .ok (.if_icmp .ne 7, 3) := by decide +kernel
theorem dX6_applyText_68 : decode cX6_applyText 68 = .ok (.iconst 1, 1) := by decide +kernel
theorem dX6_applyText_69 : decode cX6_applyText 69 = .ok (.goto 9, 3) := by decide +kernel
theorem dX6_applyText_72 : decode cX6_applyText 72 = .ok (.iconst 0, 1) := by decide +kernel
theorem dX6_applyText_73 : decode cX6_applyText 73 = .ok (.goto 5, 3) := by decide +kernel
theorem dX6_applyText_76 : decode cX6_applyText 76 = .ok (.iload 5, 2) := by decide +kernel
theorem dX6_applyText_78 : decode cX6_applyText 78 = .ok (.istore 5, 2) := by decide +kernel
theorem dX6_applyText_80 : decode cX6_applyText 80 = .ok (.iload 8, 2) := by decide +kernel
theorem dX6_applyText_82 : decode cX6_applyText 82 = .ok (.bipush (-9), 2) := by decide +kernel
theorem dX6_applyText_84 : decode cX6_applyText 84 = .ok (.if_icmp .ne 8, 3) := by decide +kernel
theorem dX6_applyText_87 : decode cX6_applyText 87 = .ok (.iload 4, 2) := by decide +kernel
theorem dX6_applyText_89 : decode cX6_applyText 89 = .ok (.goto 27, 3) := by decide +kernel
theorem dX6_applyText_92 : decode cX6_applyText 92 = .ok (.iload 5, 2) := by decide +kernel
theorem dX6_applyText_94 : decode cX6_applyText 94 = .ok (.ifCond .eq 13, 3) := by decide +kernel
theorem dX6_applyText_97 : decode cX6_applyText 97 = .ok (.iload 4, 2) := by decide +kernel
theorem dX6_applyText_99 : decode cX6_applyText 99 = .ok (.iconst 1, 1) := by decide +kernel
theorem dX6_applyText_100 : decode cX6_applyText 100 = .ok (.iload 8, 2) := by decide +kernel
theorem dX6_applyText_102 : decode cX6_applyText 102 = .ok (.ishl, 1) := by decide +kernel
theorem dX6_applyText_103 : decode cX6_applyText 103 = .ok (.ior, 1) := by decide +kernel
theorem dX6_applyText_104 : decode cX6_applyText 104 = .ok (.goto 12, 3) := by decide +kernel
theorem dX6_applyText_107 : decode cX6_applyText 107 = .ok (.iload 4, 2) := by decide +kernel
theorem dX6_applyText_109 : decode cX6_applyText 109 = .ok (.iconst 1, 1) := by decide +kernel
theorem dX6_applyText_110 : decode cX6_applyText 110 = .ok (.iload 8, 2) := by decide +kernel
theorem dX6_applyText_112 : decode cX6_applyText 112 = .ok (.ishl, 1) := by decide +kernel
theorem dX6_applyText_113 : decode cX6_applyText 113 = .ok (.iconst (-1), 1) := by decide +kernel
theorem dX6_applyText_114 : decode cX6_applyText 114 = .ok (.ixor, 1) := by decide +kernel
theorem dX6_applyText_115 : decode cX6_applyText 115 = .ok (.iand, 1) := by decide +kernel
theorem dX6_applyText_116 : decode cX6_applyText 116 = .ok (.istore 4, 2) := by decide +kernel
theorem dX6_applyText_118 : decode cX6_applyText 118 = .ok (.iload 7, 2) := by decide +kernel
theorem dX6_applyText_120 : decode cX6_applyText 120 = .ok (.bipush 48, 2) := by decide +kernel
theorem dX6_applyText_122 : decode cX6_applyText 122 = .ok (.bipush 57, 2) := by decide +kernel
theorem dX6_applyText_124 : decode cX6_applyText 124 = .ok (.invokestatic 42, 3) := by decide +kernel
theorem dX6_applyText_127 : decode cX6_applyText 127 = .ok (.ifCond .eq 25, 3) := by decide +kernel
theorem dX6_applyText_130 : decode cX6_applyText 130 = .ok (.aload_n 0, 1) := by decide +kernel
theorem dX6_applyText_131 : decode cX6_applyText 131 = .ok (.aload_n 0, 1) := by decide +kernel
theorem dX6_applyText_132 : decode cX6_applyText 132 = .ok (.iload_n 3, 1) := by decide +kernel
theorem dX6_applyText_133 : decode cX6_applyText 133 = .ok (.iload 7, 2) := by decide +kernel
theorem dX6_applyText_135 : decode cX6_applyText 135 = .ok (.bipush 48, 2) := by decide +kernel
theorem dX6_applyText_137 : decode cX6_applyText 137 = .ok (.isub, 1) := by decide +kernel
theorem dX6_applyText_138 : decode cX6_applyText 138 = .ok (.invokevirtual 72, 3) := by decide +kernel
theorem dX6_applyText_141 : decode cX6_applyText 141 = .ok (.iload 7, 2) := by decide +kernel
theorem dX6_applyText_143 : decode cX6_applyText 143 = .ok (.bipush 48, 2) := by decide +kernel
theorem dX6_applyText_145 : decode cX6_applyText 145 = .ok (.isub, 1) := by decide +kernel
theorem dX6_applyText_146 : decode cX6_applyText 146 = .ok (.iload_n 2, 1) := by decide +kernel
theorem dX6_applyText_147 : decode cX6_applyText 147 = .ok (.iload 5, 2) := by decide +kernel
theorem dX6_applyText_149 : decode cX6_applyText 149 = .ok (.invokevirtual 145, 3) := by decide +kernel
theorem dX6_applyText_152 : decode cX6_applyText 152 = .ok (.iinc 6 1, 3) := by decide +kernel
theorem dX6_applyText_155 : decode cX6_applyText 155 = .ok (.goto (-127), 3) := by decide +kernel
theorem dX6_applyText_158 : decode cX6_applyText 158 = .ok (.aload_n 0, 1) := by decide +kernel
theorem dX6_applyText_159 : decode cX6_applyText 159 = .ok (.iload_n 3, 1) := by decide +kernel
theorem dX6_applyText_160 : decode cX6_applyText 160 = .ok (.iload_n 2, 1) := by decide +kernel
theorem dX6_applyText_161 : decode cX6_applyText 161 = .ok (.aload_n 0, 1) := by decide +kernel
theorem dX6_applyText_162 : decode cX6_applyText 162 = .ok (.getfield 7, 3) := by decide +kernel
theorem dX6_applyText_165 : decode cX6_applyText 165 = .ok (.sipush 190, 3) := by decide +kernel
theorem dX6_applyText_168 : decode cX6_applyText 168 = .ok (.iconst 4, 1) := by decide +kernel
theorem dX6_applyText_169 : decode cX6_applyText 169 = .ok (.iload_n 1, 1) := by decide +kernel
theorem dX6_applyText_170 : decode cX6_applyText 170 = .ok (.imul, 1) := by decide +kernel
theorem dX6_applyText_171 : decode cX6_applyText 171 = .ok (.iadd, 1) := by decide +kernel
theorem dX6_applyText_172 : decode cX6_applyText 172 = .ok (.iload_n 2, 1) := by decide +kernel
theorem dX6_applyText_173 : decode cX6_applyText 173 = .ok (.iadd, 1) := by decide +kernel
theorem dX6_applyText_174 : decode cX6_applyText 174 = .ok (.iaload, 1) := by decide +kernel
theorem dX6_applyText_175 : decode cX6_applyText 175 = .ok (.iload 4, 2) := by decide +kernel
theorem dX6_applyText_177 : decode cX6_applyText 177 = .ok (.invokevirtual 85, 3) := by decide +kernel
theorem dX6_applyText_180 : decode cX6_applyText 180 = .ok (.return_, 1) := by decide +kernel
theorem dX6_applyModes_0 : decode cX6_applyModes 0 = .ok (.aload_n 0, 1) := by decide +kernel
theorem dX6_applyModes_1 : decode cX6_applyModes 1 = .ok (.iload_n 1, 1) := by decide +kernel
theorem dX6_applyModes_2 : decode cX6_applyModes 2 = .ok (.iload_n 2, 1) := by decide +kernel
theorem dX6_applyModes_3 : decode cX6_applyModes 3 = .ok (.invokevirtual 115, 3) := by decide +kernel
theorem dX6_applyModes_6 : decode cX6_applyModes 6 = .ok (.ifCond .eq 10, 3) := by decide +kernel
theorem dX6_applyModes_9 : decode cX6_applyModes 9 = .ok (.iload_n 3, 1) := by decide +kernel
theorem dX6_applyModes_10 : decode cX6_applyModes 10 = .ok (.invokestatic 118, 3) := by decide +kernel
theorem dX6_applyModes_13 : decode cX6_applyModes 13 = .ok (.ifCond .ne 5, 3) := by decide +kernel
theorem dX6_applyModes_16 : decode cX6_applyModes 16 = .ok (.iconst (-1), 1) := by decide +kernel
theorem dX6_applyModes_17 : decode cX6_applyModes 17 = .ok (.ireturn, 1) := by decide +kernel
theorem dX6_applyModes_18 : decode cX6_applyModes 18 = .ok (.aload_n 0, 1) := by decide +kernel
theorem dX6_applyModes_19 : decode cX6_applyModes 19 = .ok (.iload_n 1, 1) := by decide +kernel
theorem dX6_applyModes_20 : decode cX6_applyModes 20 = .ok (.iload_n 2, 1) := by decide +kernel
theorem dX6_applyModes_21 : decode cX6_applyModes 21 = .ok (.iload_n 3, 1) := by decide +kernel
theorem dX6_applyModes_22 : decode cX6_applyModes 22 = .ok (.invokevirtual 130, 3) := by decide +kernel
theorem dX6_applyModes_25 : decode cX6_applyModes 25 = .ok (.ifCond .ne 6, 3) := by decide +kernel
theorem dX6_applyModes_28 : decode cX6_applyModes 28 = .ok (.bipush (-2), 2) := by decide +kernel
theorem dX6_applyModes_30 : decode cX6_applyModes 30 = .ok (.ireturn, 1) := by decide +kernel
theorem dX6_applyModes_31 : decode cX6_applyModes 31 = .ok (.aload_n 0, 1) := by decide +kernel
theorem dX6_applyModes_32 : decode cX6_applyModes 32 = .ok (.aload_n 0, 1) := by decide +kernel
theorem dX6_applyModes_33 : decode cX6_applyModes 33 = .ok (.aload_n 0, 1) := by decide +kernel
theorem dX6_applyModes_34 : decode cX6_applyModes 34 = .ok (.iload_n 1, 1) := by decide +kernel
theorem dX6_applyModes_35 : decode cX6_applyModes 35 = .ok (.invokevirtual 54, 3) := by decide +kernel
theorem dX6_applyModes_38 : decode cX6_applyModes 38 = .ok (.iload_n 3, 1) := by decide +kernel
theorem dX6_applyModes_39 : decode cX6_applyModes 39 = .ok (.invokevirtual 82, 3) := by decide +kernel
theorem dX6_applyModes_42 : decode cX6_applyModes 42 = .ok (.invokevirtual 149, 3) := by decide +kernel
theorem dX6_applyModes_45 : decode cX6_applyModes 45 = .ok (.istore 4, 2) := by decide +kernel
theorem dX6_applyModes_47 : decode cX6_applyModes 47 = .ok (.iload 4, 2) := by decide +kernel
theorem dX6_applyModes_49 : decode cX6_applyModes 49 = .ok (.bipush (-9), 2) := by decide +kernel
theorem dX6_applyModes_51 : decode cX6_applyModes 51 = .ok (.if_icmp .eq 9, 3) := by decide +kernel
theorem dX6_applyModes_54 : decode cX6_applyModes 54 = .ok (.bipush (-10), 2) := by decide +kernel
theorem dX6_applyModes_56 : decode cX6_applyModes 56 = .ok (.iload 4, 2) := by decide +kernel
theorem dX6_applyModes_58 : decode cX6_applyModes 58 = .ok (.isub, 1) := by decide +kernel
theorem dX6_applyModes_59 : decode cX6_applyModes 59 = .ok (.ireturn, 1) := by decide +kernel
theorem dX6_applyModes_60 : decode cX6_applyModes 60 = .ok (.aload_n 0, 1) := by decide +kernel
theorem dX6_applyModes_61 : decode cX6_applyModes 61 = .ok (.invokevirtual 69, 3) := by decide +kernel
theorem dX6_applyModes_64 : decode cX6_applyModes 64 = .ok (.aload_n 0, 1) := by decide +kernel
theorem dX6_applyModes_65 : decode cX6_applyModes 65 = .ok (.iload_n 1, 1) := by decide +kernel
theorem dX6_applyModes_66 : decode cX6_applyModes 66 = .ok (.iload_n 3, 1) := by decide +kernel
theorem dX6_applyModes_67 : decode cX6_applyModes 67 = .ok (.invokevirtual 152, 3) := by decide +kernel
theorem dX6_applyModes_70 : decode cX6_applyModes 70 = .ok (.aload_n 0, 1) := by decide +kernel
theorem dX6_applyModes_71 : decode cX6_applyModes 71 = .ok (.iconst 0, 1) := by decide +kernel
theorem dX6_applyModes_72 : decode cX6_applyModes 72 = .ok (.putfield 133, 3) := by decide +kernel
theorem dX6_applyModes_75 : decode cX6_applyModes 75 = .ok (.aload_n 0, 1) := by decide +kernel
theorem dX6_applyModes_76 : decode cX6_applyModes 76 = .ok (.getfield 136, 3) := by decide +kernel
theorem dX6_applyModes_79 : decode cX6_applyModes 79 = .ok (.ireturn, 1) := by decide +kernel
theorem dX6_members_0 : decode cX6_members 0 = .ok (.aload_n 0, 1) := by decide +kernel
theorem dX6_members_1 : decode cX6_members 1 = .ok (.iload_n 1, 1) := by decide +kernel
theorem dX6_members_2 : decode cX6_members 2 = .ok (.invokevirtual 46, 3) := by decide +kernel
theorem dX6_members_5 : decode cX6_members 5 = .ok (.ifCond .eq 23, 3) := by decide +kernel
theorem dX6_members_8 : decode cX6_members 8 = .ok (.iload_n 2, 1) := by decide +kernel
theorem dX6_members_9 : decode cX6_members 9 = .ok (.invokestatic 118, 3) := by decide +kernel
theorem dX6_members_12 : decode cX6_members 12 = .ok (.ifCond .eq 16, 3) := by decide +kernel
theorem dX6_members_15 : decode cX6_members 15 = .ok (.aload_n 0, 1) := by decide +kernel
theorem dX6_members_16 : decode cX6_members 16 = .ok (.aload_n 0, 1) := by decide +kernel
theorem dX6_members_17 : decode cX6_members 17 = .ok (.iload_n 1, 1) := by decide +kernel
theorem dX6_members_18 : decode cX6_members 18 = .ok (.invokevirtual 54, 3) := by decide +kernel
theorem dX6_members_21 : decode cX6_members 21 = .ok (.iload_n 2, 1) := by decide +kernel
theorem dX6_members_22 : decode cX6_members 22 = .ok (.invokevirtual 82, 3) := by decide +kernel
theorem dX6_members_25 : decode cX6_members 25 = .ok (.goto 4, 3) := by decide +kernel
theorem dX6_members_28 : decode cX6_members 28 = .ok (.iconst (-1), 1) := by decide +kernel
theorem dX6_members_29 : decode cX6_members 29 = .ok (.ireturn, 1) := by decide +kernel
theorem dX6_operators_0 : decode cX6_operators 0 = .ok (.aload_n 0, 1) := by decide +kernel
theorem dX6_operators_1 : decode cX6_operators 1 = .ok (.iload_n 1, 1) := by decide +kernel
theorem dX6_operators_2 : decode cX6_operators 2 = .ok (.invokevirtual 46, 3) := by decide +kernel
theorem dX6_operators_5 : decode cX6_operators 5 = .ok (.ifCond .eq 26, 3) := by decide +kernel
theorem dX6_operators_8 : decode cX6_operators 8 = .ok (.iload_n 2, 1) := by decide +kernel
theorem dX6_operators_9 : decode cX6_operators 9 = .ok (.invokestatic 118, 3) := by decide +kernel
theorem dX6_operators_12 : decode cX6_operators 12 = .ok (.ifCond .eq 19, 3) := by decide +kernel
theorem dX6_operators_15 : decode cX6_operators 15 = .ok (.aload_n 0, 1) := by decide +kernel
theorem dX6_operators_16 : decode cX6_operators 16 = .ok (.aload_n 0, 1) := by decide +kernel
theorem dX6_operators_17 : decode cX6_operators 17 = .ok (.iload_n 1, 1) := by decide +kernel
theorem dX6_operators_18 : decode cX6_operators 18 = .ok (.invokevirtual 54, 3) := by decide +kernel
theorem dX6_operators_21 : decode cX6_operators 21 = .ok (.sipush 130, 3) := by decide +kernel
theorem dX6_operators_24 : decode cX6_operators 24 = .ok (.iload_n 2, 1) := by decide +kernel
theorem dX6_operators_25 : decode cX6_operators 25 = .ok (.invokevirtual 65, 3) := by decide +kernel
theorem dX6_operators_28 : decode cX6_operators 28 = .ok (.goto 4, 3) := by decide +kernel
theorem dX6_operators_31 : decode cX6_operators 31 = .ok (.iconst (-1), 1) := by decide +kernel
theorem dX6_operators_32 : decode cX6_operators 32 = .ok (.ireturn, 1) := by decide +kernel
theorem dX6_valueOf_0 : decode cX6_valueOf 0 = .ok (.aload_n 0, 1) := by decide +kernel
theorem dX6_valueOf_1 : decode cX6_valueOf 1 = .ok (.iload_n 2, 1) := by decide +kernel
theorem dX6_valueOf_2 : decode cX6_valueOf 2 = .ok (.invokevirtual 46, 3) := by decide +kernel
theorem dX6_valueOf_5 : decode cX6_valueOf 5 = .ok (.ifCond .eq 10, 3) := by decide +kernel
theorem dX6_valueOf_8 : decode cX6_valueOf 8 = .ok (.iload_n 3, 1) := by decide +kernel
theorem dX6_valueOf_9 : decode cX6_valueOf 9 = .ok (.invokestatic 118, 3) := by decide +kernel
theorem dX6_valueOf_12 : decode cX6_valueOf 12 = .ok (.ifCond .ne 5, 3) := by decide +kernel
theorem dX6_valueOf_15 : decode cX6_valueOf 15 = .ok (.iconst (-1), 1) := by decide +kernel
theorem dX6_valueOf_16 : decode cX6_valueOf 16 = .ok (.ireturn, 1) := by decide +kernel
theorem dX6_valueOf_17 : decode cX6_valueOf 17 = .ok (.aload_n 0, 1) := by decide +kernel
theorem dX6_valueOf_18 : decode cX6_valueOf 18 = .ok (.iload_n 2, 1) := by decide +kernel
theorem dX6_valueOf_19 : decode cX6_valueOf 19 = .ok (.iload_n 3, 1) := by decide +kernel
theorem dX6_valueOf_20 : decode cX6_valueOf 20 = .ok (.invokevirtual 124, 3) := by decide +kernel
theorem dX6_valueOf_23 : decode cX6_valueOf 23 = .ok (.ifCond .ne 8, 3) := by decide +kernel
theorem dX6_valueOf_26 : decode cX6_valueOf 26 = .ok (.bipush (-9), 2) := by decide +kernel
theorem dX6_valueOf_28 : decode cX6_valueOf 28 = .ok (.goto 15, 3) := by decide +kernel
theorem dX6_valueOf_31 : decode cX6_valueOf 31 = .ok (.aload_n 0, 1) := by decide +kernel
theorem dX6_valueOf_32 : decode cX6_valueOf 32 = .ok (.getfield 7, 3) := by decide +kernel
theorem dX6_valueOf_35 : decode cX6_valueOf 35 = .ok (.iload_n 1, 1) := by decide +kernel
theorem dX6_valueOf_36 : decode cX6_valueOf 36 = .ok (.iconst 4, 1) := by decide +kernel
theorem dX6_valueOf_37 : decode cX6_valueOf 37 = .ok (.iload_n 2, 1) := by decide +kernel
theorem dX6_valueOf_38 : decode cX6_valueOf 38 = .ok (.imul, 1) := by decide +kernel
theorem dX6_valueOf_39 : decode cX6_valueOf 39 = .ok (.iadd, 1) := by decide +kernel
theorem dX6_valueOf_40 : decode cX6_valueOf 40 = .ok (.iload_n 3, 1) := by decide +kernel
theorem dX6_valueOf_41 : decode cX6_valueOf 41 = .ok (.iadd, 1) := by decide +kernel
theorem dX6_valueOf_42 : decode cX6_valueOf 42 = .ok (.iaload, 1) := by decide +kernel
theorem dX6_valueOf_43 : decode cX6_valueOf 43 = .ok (.ireturn, 1) := by decide +kernel
theorem dX6_modes_0 : decode cX6_modes 0 = .ok (.aload_n 0, 1) := by decide +kernel
theorem dX6_modes_1 : decode cX6_modes 1 = .ok (.sipush 214, 3) := by decide +kernel
theorem dX6_modes_4 : decode cX6_modes 4 = .ok (.iload_n 1, 1) := by decide +kernel
theorem dX6_modes_5 : decode cX6_modes 5 = .ok (.iload_n 2, 1) := by decide +kernel
theorem dX6_modes_6 : decode cX6_modes 6 = .ok (.invokevirtual 155, 3) := by decide +kernel
theorem dX6_modes_9 : decode cX6_modes 9 = .ok (.ireturn, 1) := by decide +kernel
theorem dX6_channelTimestamp_0 : decode cX6_channelTimestamp 0 = .ok (.aload_n 0, 1) := by decide +kernel
theorem dX6_channelTimestamp_1 : decode cX6_channelTimestamp 1 = .ok (.sipush 190, 3) := by decide +kernel
theorem dX6_channelTimestamp_4 : decode cX6_channelTimestamp 4 = .ok (.iload_n 1, 1) := by decide +kernel
theorem dX6_channelTimestamp_5 : decode cX6_channelTimestamp 5 = .ok (.iload_n 2, 1) := by decide +kernel
theorem dX6_channelTimestamp_6 : decode cX6_channelTimestamp 6 = .ok (.invokevirtual 155, 3) := by decide +kernel
theorem dX6_channelTimestamp_9 : decode cX6_channelTimestamp 9 = .ok (.ireturn, 1) := by decide +kernel
theorem dX6_lastDeprived_0 : decode cX6_lastDeprived 0 = .ok (.aload_n 0, 1) := by decide +kernel
theorem dX6_lastDeprived_1 : decode cX6_lastDeprived 1 = .ok (.getfield 7, 3) := by decide +kernel
theorem dX6_lastDeprived_4 : decode cX6_lastDeprived 4 = .ok (.iconst 2, 1) := by decide +kernel
theorem dX6_lastDeprived_5 : decode cX6_lastDeprived 5 = .ok (.iaload, 1) := by decide +kernel
theorem dX6_lastDeprived_6 : decode cX6_lastDeprived 6 = .ok (.ireturn, 1) := by decide +kernel
theorem dX6_lastDropped_0 : decode cX6_lastDropped 0 = .ok (.aload_n 0, 1) := by decide +kernel
theorem dX6_lastDropped_1 : decode cX6_lastDropped 1 = .ok (.getfield 7, 3) := by decide +kernel
theorem dX6_lastDropped_4 : decode cX6_lastDropped 4 = .ok (.iconst 3, 1) := by decide +kernel
theorem dX6_lastDropped_5 : decode cX6_lastDropped 5 = .ok (.iaload, 1) := by decide +kernel
theorem dX6_lastDropped_6 : decode cX6_lastDropped 6 = .ok (.ireturn, 1) := by decide +kernel
theorem dX6_burstOf_0 : decode cX6_burstOf 0 = .ok (.aload_n 0, 1) := by decide +kernel
theorem dX6_burstOf_1 : decode cX6_burstOf 1 = .ok (.iload_n 1, 1) := by decide +kernel
theorem dX6_burstOf_2 : decode cX6_burstOf 2 = .ok (.invokevirtual 54, 3) := by decide +kernel
theorem dX6_burstOf_5 : decode cX6_burstOf 5 = .ok (.istore_n 2, 1) := by decide +kernel
theorem dX6_burstOf_6 : decode cX6_burstOf 6 = .ok (.iload_n 2, 1) := by decide +kernel
theorem dX6_burstOf_7 : decode cX6_burstOf 7 = .ok (.invokestatic 79, 3) := by decide +kernel
theorem dX6_burstOf_10 : decode cX6_burstOf 10 = .ok (.aload_n 0, 1) := by decide +kernel
theorem dX6_burstOf_11 : decode cX6_burstOf 11 = .ok (.iload_n 2, 1) := by decide +kernel
theorem dX6_burstOf_12 : decode cX6_burstOf 12 = .ok (.bipush 10, 2) := by decide +kernel
theorem dX6_burstOf_14 : decode cX6_burstOf 14 = .ok (.iconst 0, 1) := by decide +kernel
theorem dX6_burstOf_15 : decode cX6_burstOf 15 = .ok (.invokevirtual 65, 3) := by decide +kernel
theorem dX6_burstOf_18 : decode cX6_burstOf 18 = .ok (.invokestatic 79, 3) := by decide +kernel
theorem dX6_burstOf_21 : decode cX6_burstOf 21 = .ok (.iadd, 1) := by decide +kernel
theorem dX6_burstOf_22 : decode cX6_burstOf 22 = .ok (.istore_n 3, 1) := by decide +kernel
theorem dX6_burstOf_23 : decode cX6_burstOf 23 = .ok (.iconst 0, 1) := by decide +kernel
theorem dX6_burstOf_24 : decode cX6_burstOf 24 = .ok (.istore 4, 2) := by decide +kernel
theorem dX6_burstOf_26 : decode cX6_burstOf 26 = .ok (.iload 4, 2) := by decide +kernel
theorem dX6_burstOf_28 : decode cX6_burstOf 28 = .ok (.iconst 4, 1) := by decide +kernel
theorem dX6_burstOf_29 : decode cX6_burstOf 29 = .ok (.if_icmp .ge 56, 3) := by decide +kernel
theorem dX6_burstOf_32 : decode cX6_burstOf 32 = .ok (.aload_n 0, 1) := by decide +kernel
theorem dX6_burstOf_33 : decode cX6_burstOf 33 = .ok (.iload_n 2, 1) := by decide +kernel
theorem dX6_burstOf_34 : decode cX6_burstOf 34 = .ok (.iload 4, 2) := by decide +kernel
theorem dX6_burstOf_36 : decode cX6_burstOf 36 = .ok (.invokevirtual 82, 3) := by decide +kernel
theorem dX6_burstOf_39 : decode cX6_burstOf 39 = .ok (.invokestatic 79, 3) := by decide +kernel
theorem dX6_burstOf_42 : decode cX6_burstOf 42 = .ok (.istore 5, 2) := by decide +kernel
theorem dX6_burstOf_44 : decode cX6_burstOf 44 = .ok (.iload_n 3, 1) := by decide +kernel
theorem dX6_burstOf_45 : decode cX6_burstOf 45 = .ok (.iload 5, 2) := by decide +kernel
theorem dX6_burstOf_47 : decode cX6_burstOf 47 = .ok (.iadd, 1) := by decide +kernel
theorem dX6_burstOf_48 : decode cX6_burstOf 48 = .ok (.istore_n 3, 1) := by decide +kernel
theorem dX6_burstOf_49 : decode cX6_burstOf 49 = .ok (.iload_n 3, 1) := by decide +kernel
theorem dX6_burstOf_50 : decode cX6_burstOf 50 = .ok (.iload 5, 2) := by decide +kernel
theorem dX6_burstOf_52 : decode cX6_burstOf 52 = .ok (.ifCond .le 24, 3) := by decide +kernel
theorem dX6_burstOf_55 : decode cX6_burstOf 55 = .ok (.aload_n 0, 1) := by decide +kernel
theorem dX6_burstOf_56 : decode cX6_burstOf 56 = .ok (.getfield 7, 3) := by decide +kernel
theorem dX6_burstOf_59 : decode cX6_burstOf 59 = .ok (.sipush 214, 3) := by decide +kernel
theorem dX6_burstOf_62 : decode cX6_burstOf 62 = .ok (.iconst 4, 1) := by decide +kernel
theorem dX6_burstOf_63 : decode cX6_burstOf 63 = .ok (.iload_n 1, 1) := by decide +kernel
theorem dX6_burstOf_64 : decode cX6_burstOf 64 = .ok (.imul, 1) := by decide +kernel
theorem dX6_burstOf_65 : decode cX6_burstOf 65 = .ok (.iadd, 1) := by decide +kernel
theorem dX6_burstOf_66 : decode cX6_burstOf 66 = .ok (.iload 4, 2) := by decide +kernel
theorem dX6_burstOf_68 : decode cX6_burstOf 68 = .ok (.iadd, 1) := by decide +kernel
theorem dX6_burstOf_69 : decode cX6_burstOf 69 = .ok (.iaload, 1) := by decide +kernel
theorem dX6_burstOf_70 : decode cX6_burstOf 70 = .ok (.invokestatic 79, 3) := by decide +kernel
theorem dX6_burstOf_73 : decode cX6_burstOf 73 = .ok (.goto 4, 3) := by decide +kernel
theorem dX6_burstOf_76 : decode cX6_burstOf 76 = .ok (.iconst 0, 1) := by decide +kernel
theorem dX6_burstOf_77 : decode cX6_burstOf 77 = .ok (.iadd, 1) := by decide +kernel
theorem dX6_burstOf_78 : decode cX6_burstOf 78 = .ok (.istore_n 3, 1) := by decide +kernel
theorem dX6_burstOf_79 : decode cX6_burstOf 79 = .ok (.iinc 4 1, 3) := by decide +kernel
theorem dX6_burstOf_82 : decode cX6_burstOf 82 = .ok (.goto (-56), 3) := by decide +kernel
theorem dX6_burstOf_85 : decode cX6_burstOf 85 = .ok (.iload_n 3, 1) := by decide +kernel
theorem dX6_burstOf_86 : decode cX6_burstOf 86 = .ok (.ireturn, 1) := by decide +kernel
theorem dX6_forecastError_0 : decode cX6_forecastError 0 = .ok (.aload_n 0, 1) := by decide +kernel
theorem dX6_forecastError_1 : decode cX6_forecastError 1 = .ok (.iload_n 1, 1) := by decide +kernel
theorem dX6_forecastError_2 : decode cX6_forecastError 2 = .ok (.iload_n 2, 1) := by decide +kernel
theorem dX6_forecastError_3 : decode cX6_forecastError 3 = .ok (.invokevirtual 92, 3) := by decide +kernel
theorem dX6_forecastError_6 : decode cX6_forecastError 6 = .ok (.ifCond .ne 7, 3) := by decide +kernel
theorem dX6_forecastError_9 : decode cX6_forecastError 9 = .ok (.iconst (-1), 1) := by decide +kernel
theorem dX6_forecastError_10 : decode cX6_forecastError 10 = .ok (.goto 18, 3) := by decide +kernel
theorem dX6_forecastError_13 : decode cX6_forecastError 13 = .ok (.aload_n 0, 1) := by decide +kernel
theorem dX6_forecastError_14 : decode cX6_forecastError 14 = .ok (.iload_n 1, 1) := by decide +kernel
theorem dX6_forecastError_15 : decode cX6_forecastError 15 = .ok (.iload_n 2, 1) := by decide +kernel
theorem dX6_forecastError_16 : decode cX6_forecastError 16 = .ok (.invokevirtual 95, 3) := by decide +kernel
theorem dX6_forecastError_19 : decode cX6_forecastError 19 = .ok (.ifCond .eq 8, 3) := by decide +kernel
theorem dX6_forecastError_22 : decode cX6_forecastError 22 = .ok (.bipush (-2), 2) := by decide +kernel
theorem dX6_forecastError_24 : decode cX6_forecastError 24 = .ok (.goto 4, 3) := by decide +kernel
theorem dX6_forecastError_27 : decode cX6_forecastError 27 = .ok (.iconst 0, 1) := by decide +kernel
theorem dX6_forecastError_28 : decode cX6_forecastError 28 = .ok (.ireturn, 1) := by decide +kernel
theorem dX6_burstSize_0 : decode cX6_burstSize 0 = .ok (.aload_n 0, 1) := by decide +kernel
theorem dX6_burstSize_1 : decode cX6_burstSize 1 = .ok (.iload_n 1, 1) := by decide +kernel
theorem dX6_burstSize_2 : decode cX6_burstSize 2 = .ok (.iload_n 2, 1) := by decide +kernel
theorem dX6_burstSize_3 : decode cX6_burstSize 3 = .ok (.invokevirtual 158, 3) := by decide +kernel
theorem dX6_burstSize_6 : decode cX6_burstSize 6 = .ok (.istore_n 3, 1) := by decide +kernel
theorem dX6_burstSize_7 : decode cX6_burstSize 7 = .ok (.iload_n 3, 1) := by decide +kernel
theorem dX6_burstSize_8 : decode cX6_burstSize 8 = .ok (.ifCond .ge 7, 3) := by decide +kernel
theorem dX6_burstSize_11 : decode cX6_burstSize 11 = .ok (.iload_n 3, 1) := by decide +kernel
theorem dX6_burstSize_12 : decode cX6_burstSize 12 = .ok (.goto 14, 3) := by decide +kernel
theorem dX6_burstSize_15 : decode cX6_burstSize 15 = .ok (.aload_n 0, 1) := by decide +kernel
theorem dX6_burstSize_16 : decode cX6_burstSize 16 = .ok (.iload_n 1, 1) := by decide +kernel
theorem dX6_burstSize_17 : decode cX6_burstSize 17 = .ok (.invokevirtual 161, 3) := by decide +kernel
theorem dX6_burstSize_20 : decode cX6_burstSize 20 = .ok (.aload_n 0, 1) := by decide +kernel
theorem dX6_burstSize_21 : decode cX6_burstSize 21 = .ok (.iload_n 2, 1) := by decide +kernel
theorem dX6_burstSize_22 : decode cX6_burstSize 22 = .ok (.invokevirtual 161, 3) := by decide +kernel
theorem dX6_burstSize_25 : decode cX6_burstSize 25 = .ok (.iadd, 1) := by decide +kernel
theorem dX6_burstSize_26 : decode cX6_burstSize 26 = .ok (.ireturn, 1) := by decide +kernel
theorem dX6_killsIfConnected_0 : decode cX6_killsIfConnected 0 = .ok (.aload_n 0, 1) := by decide +kernel
theorem dX6_killsIfConnected_1 : decode cX6_killsIfConnected 1 = .ok (.iload_n 1, 1) := by decide +kernel
theorem dX6_killsIfConnected_2 : decode cX6_killsIfConnected 2 = .ok (.iload_n 2, 1) := by decide +kernel
theorem dX6_killsIfConnected_3 : decode cX6_killsIfConnected 3 = .ok (.invokevirtual 158, 3) := by decide +kernel
theorem dX6_killsIfConnected_6 : decode cX6_killsIfConnected 6 = .ok (.istore_n 3, 1) := by decide +kernel
theorem dX6_killsIfConnected_7 : decode cX6_killsIfConnected 7 = .ok (.iload_n 3, 1) := by decide +kernel
theorem dX6_killsIfConnected_8 : decode cX6_killsIfConnected 8 = .ok (.ifCond .ge 5, 3) := by decide +kernel
theorem dX6_killsIfConnected_11 : decode cX6_killsIfConnected 11 = .ok (.iload_n 3, 1) := by decide +kernel
theorem dX6_killsIfConnected_12 : decode cX6_killsIfConnected 12 = .ok (.ireturn, 1) := by decide +kernel
theorem dX6_killsIfConnected_13 : decode cX6_killsIfConnected 13 = .ok (.aload_n 0, 1) := by decide +kernel
theorem dX6_killsIfConnected_14 : decode cX6_killsIfConnected 14 = .ok (.iconst 0, 1) := by decide +kernel
theorem dX6_killsIfConnected_15 : decode cX6_killsIfConnected 15 = .ok (.aload_n 0, 1) := by decide +kernel
theorem dX6_killsIfConnected_16 : decode cX6_killsIfConnected 16 = .ok (.iload_n 1, 1) := by decide +kernel
theorem dX6_killsIfConnected_17 : decode cX6_killsIfConnected 17 = .ok (.invokevirtual 54, 3) := by decide +kernel
theorem dX6_killsIfConnected_20 : decode cX6_killsIfConnected 20 = .ok (.invokevirtual 164, 3) := by decide +kernel
theorem dX6_killsIfConnected_23 : decode cX6_killsIfConnected 23 = .ok (.aload_n 0, 1) := by decide +kernel
theorem dX6_killsIfConnected_24 : decode cX6_killsIfConnected 24 = .ok (.iconst 1, 1) := by decide +kernel
theorem dX6_killsIfConnected_25 : decode cX6_killsIfConnected 25 = .ok (.aload_n 0, 1) := by decide +kernel
theorem dX6_killsIfConnected_26 : decode cX6_killsIfConnected 26 = .ok (.iload_n 2, 1) := by decide +kernel
theorem dX6_killsIfConnected_27 : decode cX6_killsIfConnected 27 = .ok (.invokevirtual 54, 3) := by decide +kernel
theorem dX6_killsIfConnected_30 : decode cX6_killsIfConnected 30 = .ok (.invokevirtual 164, 3) := by decide +kernel
theorem dX6_killsIfConnected_33 : decode cX6_killsIfConnected 33 = .ok (.aload_n 0, 1) := by decide +kernel
theorem dX6_killsIfConnected_34 : decode cX6_killsIfConnected 34 = .ok (.iconst 0, 1) := by decide +kernel
theorem dX6_killsIfConnected_35 : decode cX6_killsIfConnected 35 = .ok (.iconst 0, 1) := by decide +kernel
theorem dX6_killsIfConnected_36 : decode cX6_killsIfConnected 36 = .ok (.iconst 1, 1) := by decide +kernel
theorem dX6_killsIfConnected_37 : decode cX6_killsIfConnected 37 = .ok (.invokevirtual 167, 3) := by decide +kernel
theorem dX6_killsIfConnected_40 : decode cX6_killsIfConnected 40 = .ok (.ireturn, 1) := by decide +kernel
theorem dX6_usersOutside_0 : decode cX6_usersOutside 0 = .ok (.iconst 0, 1) := by decide +kernel
theorem dX6_usersOutside_1 : decode cX6_usersOutside 1 = .ok (.istore_n 2, 1) := by decide +kernel
theorem dX6_usersOutside_2 : decode cX6_usersOutside 2 = .ok (.iconst 0, 1) := by decide +kernel
theorem dX6_usersOutside_3 : decode cX6_usersOutside 3 = .ok (.istore_n 3, 1) := by decide +kernel
theorem dX6_usersOutside_4 : decode cX6_usersOutside 4 = .ok (.iload_n 3, 1) := by decide +kernel
theorem dX6_usersOutside_5 : decode cX6_usersOutside 5 = .ok (.aload_n 0, 1) := by decide +kernel
theorem dX6_usersOutside_6 : decode cX6_usersOutside 6 = .ok (.getfield 7, 3) := by decide +kernel
theorem dX6_usersOutside_9 : decode cX6_usersOutside 9 = .ok (.iconst 0, 1) := by decide +kernel
theorem dX6_usersOutside_10 : decode cX6_usersOutside 10 = .ok (.iaload, 1) := by decide +kernel
theorem dX6_usersOutside_11 : decode cX6_usersOutside 11 = .ok (.if_icmp .ge 37, 3) := by decide +kernel
theorem dX6_usersOutside_14 : decode cX6_usersOutside 14 = .ok (.iload_n 2, 1) := by decide +kernel
theorem dX6_usersOutside_15 : decode cX6_usersOutside 15 = .ok (.iload_n 1, 1) := by decide +kernel
theorem dX6_usersOutside_16 : decode cX6_usersOutside 16 = .ok (.iload_n 3, 1) := by decide +kernel
theorem dX6_usersOutside_17 : decode cX6_usersOutside 17 = .ok (.invokestatic 50, 3) := by decide +kernel
theorem dX6_usersOutside_20 : decode cX6_usersOutside 20 = .ok (.ifCond .eq 7, 3) := by decide +kernel
theorem dX6_usersOutside_23 : decode cX6_usersOutside 23 = .ok (.iconst 0, 1) := by decide +kernel
theorem dX6_usersOutside_24 : decode cX6_usersOutside 24 = .ok (.goto 16, 3) := by decide +kernel
theorem dX6_usersOutside_27 : decode cX6_usersOutside 27 = .ok (.aload_n 0, 1) := by decide +kernel
theorem dX6_usersOutside_28 : decode cX6_usersOutside 28 = .ok (.iconst 1, 1) := by decide +kernel
theorem dX6_usersOutside_29 : decode cX6_usersOutside 29 = .ok (.iload_n 3, 1) := by decide +kernel
theorem dX6_usersOutside_30 : decode cX6_usersOutside 30 = .ok (.ishl, 1) := by decide +kernel
theorem dX6_usersOutside_31 : decode cX6_usersOutside 31 = .ok (.bipush 10, 2) := by decide +kernel
theorem dX6_usersOutside_33 : decode cX6_usersOutside 33 = .ok (.iconst 0, 1) := by decide +kernel
theorem dX6_usersOutside_34 : decode cX6_usersOutside 34 = .ok (.invokevirtual 65, 3) := by decide +kernel
theorem dX6_usersOutside_37 : decode cX6_usersOutside 37 = .ok (.invokestatic 79, 3) := by decide +kernel
theorem dX6_usersOutside_40 : decode cX6_usersOutside 40 = .ok (.iadd, 1) := by decide +kernel
theorem dX6_usersOutside_41 : decode cX6_usersOutside 41 = .ok (.istore_n 2, 1) := by decide +kernel
theorem dX6_usersOutside_42 : decode cX6_usersOutside 42 = .ok (.iinc 3 1, 3) := by decide +kernel
theorem dX6_usersOutside_45 : decode cX6_usersOutside 45 = .ok (.goto (-41), 3) := by decide +kernel
theorem dX6_usersOutside_48 : decode cX6_usersOutside 48 = .ok (.iload_n 2, 1) := by decide +kernel
theorem dX6_usersOutside_49 : decode cX6_usersOutside 49 = .ok (.ireturn, 1) := by decide +kernel
theorem dX6_lostIfDisconnected_0 : decode cX6_lostIfDisconnected 0 = .ok (.aload_n 0, 1) := by decide +kernel
theorem dX6_lostIfDisconnected_1 : decode cX6_lostIfDisconnected 1 = .ok (.iload_n 1, 1) := by decide +kernel
theorem dX6_lostIfDisconnected_2 : decode cX6_lostIfDisconnected 2 = .ok (.iload_n 2, 1) := by decide +kernel
theorem dX6_lostIfDisconnected_3 : decode cX6_lostIfDisconnected 3 = .ok (.invokevirtual 92, 3) := by decide +kernel
theorem dX6_lostIfDisconnected_6 : decode cX6_lostIfDisconnected 6 = .ok (.ifCond .ne 5, 3) := by decide +kernel
theorem dX6_lostIfDisconnected_9 : decode cX6_lostIfDisconnected 9 = .ok (.iconst (-1), 1) := by decide +kernel
theorem dX6_lostIfDisconnected_10 : decode cX6_lostIfDisconnected 10 = .ok (.ireturn, 1) := by decide +kernel
theorem dX6_lostIfDisconnected_11 : decode cX6_lostIfDisconnected 11 = .ok (.aload_n 0, 1) := by decide +kernel
theorem dX6_lostIfDisconnected_12 : decode cX6_lostIfDisconnected 12 = .ok (.iload_n 1, 1) := by decide +kernel
theorem dX6_lostIfDisconnected_13 : decode cX6_lostIfDisconnected 13 = .ok (.iload_n 2, 1) := by decide +kernel
theorem dX6_lostIfDisconnected_14 : decode cX6_lostIfDisconnected 14 = .ok (.invokevirtual 109, 3) := by decide +kernel
theorem dX6_lostIfDisconnected_17 : decode cX6_lostIfDisconnected 17 = .ok (.ifCond .ne 6, 3) := by decide +kernel
theorem dX6_lostIfDisconnected_20 : decode cX6_lostIfDisconnected 20 = .ok (.bipush (-2), 2) := by decide +kernel
theorem dX6_lostIfDisconnected_22 : decode cX6_lostIfDisconnected 22 = .ok (.ireturn, 1) := by decide +kernel
theorem dX6_lostIfDisconnected_23 : decode cX6_lostIfDisconnected 23 = .ok (.aload_n 0, 1) := by decide +kernel
theorem dX6_lostIfDisconnected_24 : decode cX6_lostIfDisconnected 24 = .ok (.aload_n 0, 1) := by decide +kernel
theorem dX6_lostIfDisconnected_25 : decode cX6_lostIfDisconnected 25 = .ok (.iconst 0, 1) := by decide +kernel
theorem dX6_lostIfDisconnected_26 : decode cX6_lostIfDisconnected 26 = .ok (.invokevirtual 54, 3) := by decide +kernel
theorem dX6_lostIfDisconnected_29 : decode cX6_lostIfDisconnected 29 = .ok (.invokevirtual 170, 3) := by decide +kernel
theorem dX6_lostIfDisconnected_32 : decode cX6_lostIfDisconnected 32 = .ok (.istore_n 3, 1) := by decide +kernel
theorem dX6_lostIfDisconnected_33 : decode cX6_lostIfDisconnected 33 = .ok (.aload_n 0, 1) := by decide +kernel
theorem dX6_lostIfDisconnected_34 : decode cX6_lostIfDisconnected 34 = .ok (.iload_n 1, 1) := by decide +kernel
theorem dX6_lostIfDisconnected_35 : decode cX6_lostIfDisconnected 35 = .ok (.iload_n 2, 1) := by decide +kernel
theorem dX6_lostIfDisconnected_36 : decode cX6_lostIfDisconnected 36 = .ok (.iconst 0, 1) := by decide +kernel
theorem dX6_lostIfDisconnected_37 : decode cX6_lostIfDisconnected 37 = .ok (.invokevirtual 105, 3) := by decide +kernel
theorem dX6_lostIfDisconnected_40 : decode cX6_lostIfDisconnected 40 = .ok (.aload_n 0, 1) := by decide +kernel
theorem dX6_lostIfDisconnected_41 : decode cX6_lostIfDisconnected 41 = .ok (.aload_n 0, 1) := by decide +kernel
theorem dX6_lostIfDisconnected_42 : decode cX6_lostIfDisconnected 42 = .ok (.iconst 0, 1) := by decide +kernel
theorem dX6_lostIfDisconnected_43 : decode cX6_lostIfDisconnected 43 = .ok (.invokevirtual 54, 3) := by decide +kernel
theorem dX6_lostIfDisconnected_46 : decode cX6_lostIfDisconnected 46 = .ok (.invokevirtual 170, 3) := by decide +kernel
theorem dX6_lostIfDisconnected_49 : decode cX6_lostIfDisconnected 49 = .ok (.istore 4, 2) := by decide +kernel
theorem dX6_lostIfDisconnected_51 : decode cX6_lostIfDisconnected 51 = .ok (.aload_n 0, 1) := by decide +kernel
theorem dX6_lostIfDisconnected_52 : decode cX6_lostIfDisconnected 52 = .ok (.iload_n 1, 1) := by decide +kernel
theorem dX6_lostIfDisconnected_53 : decode cX6_lostIfDisconnected 53 = .ok (.iload_n 2, 1) := by decide +kernel
theorem dX6_lostIfDisconnected_54 : decode cX6_lostIfDisconnected 54 = .ok (.iconst 1, 1) := by decide +kernel
theorem dX6_lostIfDisconnected_55 : decode cX6_lostIfDisconnected 55 = .ok (.invokevirtual 105, 3) := by decide +kernel
theorem dX6_lostIfDisconnected_58 : decode cX6_lostIfDisconnected 58 = .ok (.iload 4, 2) := by decide +kernel
theorem dX6_lostIfDisconnected_60 : decode cX6_lostIfDisconnected 60 = .ok (.iload_n 3, 1) := by decide +kernel
theorem dX6_lostIfDisconnected_61 : decode cX6_lostIfDisconnected 61 = .ok (.isub, 1) := by decide +kernel
theorem dX6_lostIfDisconnected_62 : decode cX6_lostIfDisconnected 62 = .ok (.ireturn, 1) := by decide +kernel
theorem dX6_groupCell_0 : decode cX6_groupCell 0 = .ok (.bipush 60, 2) := by decide +kernel
theorem dX6_groupCell_2 : decode cX6_groupCell 2 = .ok (.iload_n 0, 1) := by decide +kernel
theorem dX6_groupCell_3 : decode cX6_groupCell 3 = .ok (.imul, 1) := by decide +kernel
theorem dX6_groupCell_4 : decode cX6_groupCell 4 = .ok (.bipush 10, 2) := by decide +kernel
theorem dX6_groupCell_6 : decode cX6_groupCell 6 = .ok (.iload_n 1, 1) := by decide +kernel
theorem dX6_groupCell_7 : decode cX6_groupCell 7 = .ok (.imul, 1) := by decide +kernel
theorem dX6_groupCell_8 : decode cX6_groupCell 8 = .ok (.iadd, 1) := by decide +kernel
theorem dX6_groupCell_9 : decode cX6_groupCell 9 = .ok (.ireturn, 1) := by decide +kernel
theorem dX6_readGroup_0 : decode cX6_readGroup 0 = .ok (.iconst 0, 1) := by decide +kernel
theorem dX6_readGroup_1 : decode cX6_readGroup 1 = .ok (.istore_n 3, 1) := by decide +kernel
theorem dX6_readGroup_2 : decode cX6_readGroup 2 = .ok (.iload_n 3, 1) := by decide +kernel
theorem dX6_readGroup_3 : decode cX6_readGroup 3 = .ok (.bipush 10, 2) := by decide +kernel
theorem dX6_readGroup_5 : decode cX6_readGroup 5 = .ok (.if_icmp .ge 55, 3) := by decide +kernel
theorem dX6_readGroup_8 : decode cX6_readGroup 8 = .ok (.aload_n 0, 1) := by decide +kernel
theorem dX6_readGroup_9 : decode cX6_readGroup 9 = .ok (.iload_n 2, 1) := by decide +kernel
theorem dX6_readGroup_10 : decode cX6_readGroup 10 = .ok (.iload_n 3, 1) := by decide +kernel
theorem dX6_readGroup_11 : decode cX6_readGroup 11 = .ok (.invokevirtual 72, 3) := by decide +kernel
theorem dX6_readGroup_14 : decode cX6_readGroup 14 = .ok (.istore 4, 2) := by decide +kernel
theorem dX6_readGroup_16 : decode cX6_readGroup 16 = .ok (.aload_n 0, 1) := by decide +kernel
theorem dX6_readGroup_17 : decode cX6_readGroup 17 = .ok (.getfield 19, 3) := by decide +kernel
theorem dX6_readGroup_20 : decode cX6_readGroup 20 = .ok (.iconst 0, 1) := by decide +kernel
theorem dX6_readGroup_21 : decode cX6_readGroup 21 = .ok (.iload_n 1, 1) := by decide +kernel
theorem dX6_readGroup_22 : decode cX6_readGroup 22 = .ok (.invokestatic 173, 3) := by decide +kernel
theorem dX6_readGroup_25 : decode cX6_readGroup 25 = .ok (.iload_n 3, 1) := by decide +kernel
theorem dX6_readGroup_26 : decode cX6_readGroup 26 = .ok (.iadd, 1) := by decide +kernel
theorem dX6_readGroup_27 : decode cX6_readGroup 27 = .ok (.iload 4, 2) := by decide +kernel
theorem dX6_readGroup_29 : decode cX6_readGroup 29 = .ok (.bipush (-9), 2) := by decide +kernel
theorem dX6_readGroup_31 : decode cX6_readGroup 31 = .ok (.if_icmp .ne 8, 3) := by decide +kernel
theorem dX6_readGroup_34 : decode cX6_readGroup 34 = .ok (.bipush (-9), 2) := by decide +kernel
theorem dX6_readGroup_36 : decode cX6_readGroup 36 = .ok (.goto 17, 3) := by decide +kernel
theorem dX6_readGroup_39 : decode cX6_readGroup 39 = .ok (.aload_n 0, 1) := by decide +kernel
theorem dX6_readGroup_40 : decode cX6_readGroup 40 = .ok (.getfield 7, 3) := by decide +kernel
theorem dX6_readGroup_43 : decode cX6_readGroup 43 = .ok (.bipush 10, 2) := by decide +kernel
theorem dX6_readGroup_45 : decode cX6_readGroup 45 = .ok (.iload 4, 2) := by decide +kernel
theorem dX6_readGroup_47 : decode cX6_readGroup 47 = .ok (.iload_n 3, 1) := by decide +kernel
theorem dX6_readGroup_48 : decode cX6_readGroup 48 = .ok (.invokestatic 58, 3) := by decide +kernel
theorem dX6_readGroup_51 : decode cX6_readGroup 51 = .ok (.iadd, 1) := by decide +kernel
theorem dX6_readGroup_52 : decode cX6_readGroup 52 = .ok (.iaload, 1) := by decide +kernel
theorem dX6_readGroup_53 : decode cX6_readGroup 53 = .ok (.iastore, 1) := by decide +kernel
theorem dX6_readGroup_54 : decode cX6_readGroup 54 = .ok (.iinc 3 1, 3) := by decide +kernel
theorem dX6_readGroup_57 : decode cX6_readGroup 57 = .ok (.goto (-55), 3) := by decide +kernel
theorem dX6_readGroup_60 : decode cX6_readGroup 60 = .ok (.return_, 1) := by decide +kernel
theorem dX6_mergeGroups_0 : decode cX6_mergeGroups 0 = .ok (.iconst 0, 1) := by decide +kernel
theorem dX6_mergeGroups_1 : decode cX6_mergeGroups 1 = .ok (.istore 4, 2) := by decide +kernel
theorem dX6_mergeGroups_3 : decode cX6_mergeGroups 3 = .ok (.iconst 0, 1) := by decide +kernel
theorem dX6_mergeGroups_4 : decode cX6_mergeGroups 4 = .ok (.istore 5, 2) := by decide +kernel
theorem dX6_mergeGroups_6 : decode cX6_mergeGroups 6 = .ok (.iload 5, 2) := by decide +kernel
theorem dX6_mergeGroups_8 : decode cX6_mergeGroups 8 = .ok (.bipush 10, 2) := by decide +kernel
theorem dX6_mergeGroups_10 : decode cX6_mergeGroups 10 = .ok (.if_icmp .ge 135, 3) := by decide +kernel
theorem dX6_mergeGroups_13 : decode cX6_mergeGroups 13 = .ok (.iload_n 1, 1) := by decide +kernel
theorem dX6_mergeGroups_14 : decode cX6_mergeGroups 14 = .ok (.iload_n 2, 1) := by decide +kernel
theorem dX6_mergeGroups_15 : decode cX6_mergeGroups 15 = .ok (.invokestatic 173, 3) := by decide +kernel
theorem dX6_mergeGroups_18 : decode cX6_mergeGroups 18 = .ok (.iload 5, 2) := by decide +kernel
theorem dX6_mergeGroups_20 : decode cX6_mergeGroups 20 = .ok (.iadd, 1) := by decide +kernel
theorem dX6_mergeGroups_21 : decode cX6_mergeGroups 21 = .ok (.istore 6, 2) := by decide +kernel
theorem dX6_mergeGroups_23 : decode cX6_mergeGroups 23 = .ok (.aload_n 0, 1) := by decide +kernel
theorem dX6_mergeGroups_24 : decode cX6_mergeGroups 24 = .ok (.getfield 19, 3) := by decide +kernel
theorem dX6_mergeGroups_27 : decode cX6_mergeGroups 27 = .ok (.iload 6, 2) := by decide +kernel
theorem dX6_mergeGroups_29 : decode cX6_mergeGroups 29 = .ok (.iaload, 1) := by decide +kernel
theorem dX6_mergeGroups_30 : decode cX6_mergeGroups 30 = .ok (.istore 7, 2) := by decide +kernel
theorem dX6_mergeGroups_32 : decode cX6_mergeGroups 32 = .ok (.aload_n 0, 1) := by decide +kernel
theorem dX6_mergeGroups_33 : decode cX6_mergeGroups 33 = .ok (.getfield 19, 3) := by decide +kernel
theorem dX6_mergeGroups_36 : decode cX6_mergeGroups 36 = .ok (.iload_n 1, 1) := by decide +kernel
theorem dX6_mergeGroups_37 : decode cX6_mergeGroups 37 = .ok (.iload_n 3, 1) := by decide +kernel
theorem dX6_mergeGroups_38 : decode cX6_mergeGroups 38 = .ok (.invokestatic 173, 3) := by decide +kernel
theorem dX6_mergeGroups_41 : decode cX6_mergeGroups 41 = .ok (.iload 5, 2) := by decide +kernel
theorem dX6_mergeGroups_43 : decode cX6_mergeGroups 43 = .ok (.iadd, 1) := by decide +kernel
theorem dX6_mergeGroups_44 : decode cX6_mergeGroups 44 = .ok (.iaload, 1) := by decide +kernel
theorem dX6_mergeGroups_45 : decode cX6_mergeGroups 45 = .ok (.istore 8, 2) := by decide +kernel
theorem dX6_mergeGroups_47 : decode cX6_mergeGroups 47 = .ok (.iload 4, 2) := by decide +kernel
theorem dX6_mergeGroups_49 : decode cX6_mergeGroups 49 = .ok (.iload 7, 2) := by decide +kernel
theorem dX6_mergeGroups_51 : decode cX6_mergeGroups 51 = .ok (.bipush (-9), 2) := by decide +kernel
theorem dX6_mergeGroups_53 : decode cX6_mergeGroups 53 = .ok (.if_icmp .eq 10, 3) := by decide +kernel
theorem dX6_mergeGroups_56 : decode cX6_mergeGroups 56 = .ok (.iload 8, 2) := by decide +kernel
theorem dX6_mergeGroups_58 : decode cX6_mergeGroups 58 = .ok (.bipush (-9), 2) := by decide +kernel
theorem dX6_mergeGroups_60 : decode cX6_mergeGroups 60 = .ok (.if_icmp .ne 7, 3) := by decide +kernel
theorem dX6_mergeGroups_63 : decode cX6_mergeGroups 63 = .ok (.iconst 0, 1) := by decide +kernel
theorem dX6_mergeGroups_64 : decode cX6_mergeGroups 64 = .ok (.goto 15, 3) := by decide +kernel
theorem dX6_mergeGroups_67 : decode cX6_mergeGroups 67 = .ok (.iload 7, 2) := by decide +kernel
theorem dX6_mergeGroups_69 : decode cX6_mergeGroups 69 = .ok (.iload 8, 2) := by decide +kernel
theorem dX6_mergeGroups_71 : decode cX6_mergeGroups 71 = .ok (.if_icmp .ne 7, 3) := by decide +kernel
theorem dX6_mergeGroups_74 : decode cX6_mergeGroups 74 = .ok (.iconst 2, 1) := by decide +kernel
theorem dX6_mergeGroups_75 : decode cX6_mergeGroups 75 = .ok (.goto 4, 3) := by decide +kernel
theorem dX6_mergeGroups_78 : decode cX6_mergeGroups 78 = .ok (.iconst 1, 1) := by decide +kernel
theorem dX6_mergeGroups_79 : decode cX6_mergeGroups 79 = .ok (.iadd, 1) := by decide +kernel
theorem dX6_mergeGroups_80 : decode cX6_mergeGroups 80 = .ok (.istore 4, 2) := by decide +kernel
theorem dX6_mergeGroups_82 : decode cX6_mergeGroups 82 = .ok (.aload_n 0, 1) := by decide +kernel
theorem dX6_mergeGroups_83 : decode cX6_mergeGroups 83 = .ok (.getfield 19, 3) := by decide +kernel
theorem dX6_mergeGroups_86 : decode cX6_mergeGroups 86 = .ok (.iload 6, 2) := by decide +kernel
theorem dX6_mergeGroups_88 : decode cX6_mergeGroups 88 = .ok (.iload 7, 2) := by decide +kernel
theorem dX6_mergeGroups_90 : decode cX6_mergeGroups 90 = .ok (.bipush (-9), 2) := by decide +kernel
theorem dX6_mergeGroups_92 : decode cX6_mergeGroups 92 = .ok (.if_icmp .ne 8, 3) := by decide +kernel
theorem dX6_mergeGroups_95 : decode cX6_mergeGroups 95 = .ok (.iload 8, 2) := by decide +kernel
theorem dX6_mergeGroups_97 : decode cX6_mergeGroups 97 = .ok (.goto 41, 3) := by decide +kernel
theorem dX6_mergeGroups_100 : decode cX6_mergeGroups 100 = .ok (.iload 8, 2) := by decide +kernel
theorem dX6_mergeGroups_102 : decode cX6_mergeGroups 102 = .ok (.bipush (-9), 2) := by decide +kernel
theorem dX6_mergeGroups_104 : decode cX6_mergeGroups 104 = .ok (.if_icmp .ne 8, 3) := by decide +kernel
theorem dX6_mergeGroups_107 : decode cX6_mergeGroups 107 = .ok (.iload 7, 2) := by decide +kernel
theorem dX6_mergeGroups_109 : decode cX6_mergeGroups 109 = .ok (.goto 29, 3) := by decide +kernel
theorem dX6_mergeGroups_112 : decode cX6_mergeGroups 112 = .ok (.iload 7, 2) := by decide +kernel
theorem dX6_mergeGroups_114 : decode cX6_mergeGroups 114 = .ok (.iload 8, 2) := by decide +kernel
theorem dX6_mergeGroups_116 : decode cX6_mergeGroups 116 = .ok (.if_icmp .ne 8, 3) := by decide +kernel
theorem dX6_mergeGroups_119 : decode cX6_mergeGroups 119 = .ok (.bipush (-9), 2) := by decide +kernel
theorem dX6_mergeGroups_121 : decode cX6_mergeGroups 121 = .ok (.goto 17, 3) := by decide +kernel
theorem dX6_mergeGroups_124 : decode cX6_mergeGroups 124 = .ok (.iload 7, 2) := by decide +kernel
theorem dX6_mergeGroups_126 : decode cX6_mergeGroups 126 = .ok (.iload 8, 2) := by decide +kernel
theorem dX6_mergeGroups_128 : decode cX6_mergeGroups 128 = .ok (.if_icmp .ge 8, 3) := by decide +kernel
theorem dX6_mergeGroups_131 : decode cX6_mergeGroups 131 = .ok (.iload 7, 2) := by decide +kernel
theorem dX6_mergeGroups_133 : decode cX6_mergeGroups 133 = .ok (.goto 5, 3) := by decide +kernel
theorem dX6_mergeGroups_136 : decode cX6_mergeGroups 136 = .ok (.iload 8, 2) := by decide +kernel
theorem dX6_mergeGroups_138 : decode cX6_mergeGroups 138 = .ok (.iastore, 1) := by decide +kernel
theorem dX6_mergeGroups_139 : decode cX6_mergeGroups 139 = .ok (.iinc 5 1, 3) := by decide +kernel
theorem dX6_mergeGroups_142 : decode cX6_mergeGroups 142 = .ok (.goto (-136), 3) := by decide +kernel
theorem dX6_mergeGroups_145 : decode cX6_mergeGroups 145 = .ok (.iload 4, 2) := by decide +kernel
theorem dX6_mergeGroups_147 : decode cX6_mergeGroups 147 = .ok (.ireturn, 1) := by decide +kernel
theorem dX6_readGroups_0 : decode cX6_readGroups 0 = .ok (.iconst 0, 1) := by decide +kernel
theorem dX6_readGroups_1 : decode cX6_readGroups 1 = .ok (.istore_n 1, 1) := by decide +kernel
theorem dX6_readGroups_2 : decode cX6_readGroups 2 = .ok (.iconst 0, 1) := by decide +kernel
theorem dX6_readGroups_3 : decode cX6_readGroups 3 = .ok (.istore_n 2, 1) := by decide +kernel
theorem dX6_readGroups_4 : decode cX6_readGroups 4 = .ok (.iconst 0, 1) := by decide +kernel
theorem dX6_readGroups_5 : decode cX6_readGroups 5 = .ok (.istore_n 3, 1) := by decide +kernel
theorem dX6_readGroups_6 : decode cX6_readGroups 6 = .ok (.iload_n 3, 1) := by decide +kernel
theorem dX6_readGroups_7 : decode cX6_readGroups 7 = .ok (.aload_n 0, 1) := by decide +kernel
theorem dX6_readGroups_8 : decode cX6_readGroups 8 = .ok (.getfield 7, 3) := by decide +kernel
theorem dX6_readGroups_11 : decode cX6_readGroups 11 = .ok (.iconst 0, 1) := by decide +kernel
theorem dX6_readGroups_12 : decode cX6_readGroups 12 = .ok (.iaload, 1) := by decide +kernel
theorem dX6_readGroups_13 : decode cX6_readGroups 13 = .ok (.if_icmp .ge 45, 3) := by decide +kernel
theorem dX6_readGroups_16 : decode cX6_readGroups 16 = .ok (.iload_n 2, 1) := by decide +kernel
theorem dX6_readGroups_17 : decode cX6_readGroups 17 = .ok (.iload_n 3, 1) := by decide +kernel
theorem dX6_readGroups_18 : decode cX6_readGroups 18 = .ok (.invokestatic 50, 3) := by decide +kernel
theorem dX6_readGroups_21 : decode cX6_readGroups 21 = .ok (.ifCond .ne 31, 3) := by decide +kernel
theorem dX6_readGroups_24 : decode cX6_readGroups 24 = .ok (.iload_n 2, 1) := by decide +kernel
theorem dX6_readGroups_25 : decode cX6_readGroups 25 = .ok (.aload_n 0, 1) := by decide +kernel
theorem dX6_readGroups_26 : decode cX6_readGroups 26 = .ok (.iload_n 3, 1) := by decide +kernel
theorem dX6_readGroups_27 : decode cX6_readGroups 27 = .ok (.invokevirtual 54, 3) := by decide +kernel
theorem dX6_readGroups_30 : decode cX6_readGroups 30 = .ok (.ior, 1) := by decide +kernel
theorem dX6_readGroups_31 : decode cX6_readGroups 31 = .ok (.istore_n 2, 1) := by decide +kernel
theorem dX6_readGroups_32 : decode cX6_readGroups 32 = .ok (.aload_n 0, 1) := by decide +kernel
theorem dX6_readGroups_33 : decode cX6_readGroups 33 = .ok (.getfield 22, 3) := by decide +kernel
theorem dX6_readGroups_36 : decode cX6_readGroups 36 = .ok (.iload_n 1, 1) := by decide +kernel
theorem dX6_readGroups_37 : decode cX6_readGroups 37 = .ok (.iload_n 3, 1) := by decide +kernel
theorem dX6_readGroups_38 : decode cX6_readGroups 38 = .ok (.iastore, 1) := by decide +kernel
theorem dX6_readGroups_39 : decode cX6_readGroups 39 = .ok (.aload_n 0, 1) := by decide +kernel
theorem dX6_readGroups_40 : decode cX6_readGroups 40 = .ok (.iload_n 1, 1) := by decide +kernel
theorem dX6_readGroups_41 : decode cX6_readGroups 41 = .ok (.aload_n 0, 1) := by decide +kernel
theorem dX6_readGroups_42 : decode cX6_readGroups 42 = .ok (.iload_n 3, 1) := by decide +kernel
theorem dX6_readGroups_43 : decode cX6_readGroups 43 = .ok (.invokevirtual 54, 3) := by decide +kernel
theorem dX6_readGroups_46 : decode cX6_readGroups 46 = .ok (.invokevirtual 164, 3) := by decide +kernel
theorem dX6_readGroups_49 : decode cX6_readGroups 49 = .ok (.iinc 1 1, 3) := by decide +kernel
theorem dX6_readGroups_52 : decode cX6_readGroups 52 = .ok (.iinc 3 1, 3) := by decide +kernel
theorem dX6_readGroups_55 : decode cX6_readGroups 55 = .ok (.goto (-49), 3) := by decide +kernel
theorem dX6_readGroups_58 : decode cX6_readGroups 58 = .ok (.iload_n 1, 1) := by decide +kernel
theorem dX6_readGroups_59 : decode cX6_readGroups 59 = .ok (.ireturn, 1) := by decide +kernel
theorem dX6_descend_0 : decode cX6_descend 0 = .ok (.iconst 0, 1) := by decide +kernel
theorem dX6_descend_1 : decode cX6_descend 1 = .ok (.istore_n 3, 1) := by decide +kernel
theorem dX6_descend_2 : decode cX6_descend 2 = .ok (.iload_n 3, 1) := by decide +kernel
theorem dX6_descend_3 : decode cX6_descend 3 = .ok (.bipush 60, 2) := by decide +kernel
theorem dX6_descend_5 : decode cX6_descend 5 = .ok (.if_icmp .ge 34, 3) := by decide +kernel
theorem dX6_descend_8 : decode cX6_descend 8 = .ok (.aload_n 0, 1) := by decide +kernel
theorem dX6_descend_9 : decode cX6_descend 9 = .ok (.getfield 19, 3) := by decide +kernel
theorem dX6_descend_12 : decode cX6_descend 12 = .ok (.bipush 60, 2) := by decide +kernel
theorem dX6_descend_14 : decode cX6_descend 14 = .ok (.iload_n 1, 1) := by decide +kernel
theorem dX6_descend_15 : decode cX6_descend 15 = .ok (.imul, 1) := by decide +kernel
theorem dX6_descend_16 : decode cX6_descend 16 = .ok (.bipush 60, 2) := by decide +kernel
theorem dX6_descend_18 : decode cX6_descend 18 = .ok (.iadd, 1) := by decide +kernel
theorem dX6_descend_19 : decode cX6_descend 19 = .ok (.iload_n 3, 1) := by decide +kernel
theorem dX6_descend_20 : decode cX6_descend 20 = .ok (.iadd, 1) := by decide +kernel
theorem dX6_descend_21 : decode cX6_descend 21 = .ok (.aload_n 0, 1) := by decide +kernel
theorem dX6_descend_22 : decode cX6_descend 22 = .ok (.getfield 19, 3) := by decide +kernel
theorem dX6_descend_25 : decode cX6_descend 25 = .ok (.bipush 60, 2) := by decide +kernel
theorem dX6_descend_27 : decode cX6_descend 27 = .ok (.iload_n 1, 1) := by decide +kernel
theorem dX6_descend_28 : decode cX6_descend 28 = .ok (.imul, 1) := by decide +kernel
theorem dX6_descend_29 : decode cX6_descend 29 = .ok (.iload_n 3, 1) := by decide +kernel
theorem dX6_descend_30 : decode cX6_descend 30 = .ok (.iadd, 1) := by decide +kernel
theorem dX6_descend_31 : decode cX6_descend 31 = .ok (.iaload, 1) := by decide +kernel
theorem dX6_descend_32 : decode cX6_descend 32 = .ok (.iastore, 1) := by decide +kernel
theorem dX6_descend_33 : decode cX6_descend 33 = .ok (.iinc 3 1, 3) := by decide +kernel
theorem dX6_descend_36 : decode cX6_descend 36 = .ok (.goto (-34), 3) := by decide +kernel
theorem dX6_descend_39 : decode cX6_descend 39 = .ok (.aload_n 0, 1) := by decide +kernel
theorem dX6_descend_40 : decode cX6_descend 40 = .ok (.getfield 31, 3) := by decide +kernel
theorem dX6_descend_43 : decode cX6_descend 43 = .ok (.iload_n 1, 1) := by decide +kernel
theorem dX6_descend_44 : decode cX6_descend 44 = .ok (.iconst 1, 1) := by decide +kernel
theorem dX6_descend_45 : decode cX6_descend 45 = .ok (.iadd, 1) := by decide +kernel
theorem dX6_descend_46 : decode cX6_descend 46 = .ok (.aload_n 0, 1) := by decide +kernel
theorem dX6_descend_47 : decode cX6_descend 47 = .ok (.getfield 31, 3) := by decide +kernel
theorem dX6_descend_50 : decode cX6_descend 50 = .ok (.iload_n 1, 1) := by decide +kernel
theorem dX6_descend_51 : decode cX6_descend 51 = .ok (.iaload, 1) := by decide +kernel
theorem dX6_descend_52 : decode cX6_descend 52 = .ok (.aload_n 0, 1) := by decide +kernel
theorem dX6_descend_53 : decode cX6_descend 53 = .ok (.iload_n 1, 1) := by decide +kernel
theorem dX6_descend_54 : decode cX6_descend 54 = .ok (.iconst 1, 1) := by decide +kernel
theorem dX6_descend_55 : decode cX6_descend 55 = .ok (.iadd, 1) := by decide +kernel
theorem dX6_descend_56 : decode cX6_descend 56 = .ok (.aload_n 0, 1) := by decide +kernel
theorem dX6_descend_57 : decode cX6_descend 57 = .ok (.getfield 25, 3) := by decide +kernel
theorem dX6_descend_60 : decode cX6_descend 60 = .ok (.iload_n 1, 1) := by decide +kernel
theorem dX6_descend_61 : decode cX6_descend 61 = .ok (.iaload, 1) := by decide +kernel
theorem dX6_descend_62 : decode cX6_descend 62 = .ok (.aload_n 0, 1) := by decide +kernel
theorem dX6_descend_63 : decode cX6_descend 63 = .ok (.getfield 28, 3) := by decide +kernel
theorem dX6_descend_66 : decode cX6_descend 66 = .ok (.iload_n 1, 1) := by decide +kernel
theorem dX6_descend_67 : decode cX6_descend 67 = .ok (.iaload, 1) := by decide +kernel
theorem dX6_descend_68 : decode cX6_descend 68 = .ok (.invokevirtual 167, 3) := by decide +kernel
theorem dX6_descend_71 : decode cX6_descend 71 = .ok (.iadd, 1) := by decide +kernel
theorem dX6_descend_72 : decode cX6_descend 72 = .ok (.iastore, 1) := by decide +kernel
theorem dX6_descend_73 : decode cX6_descend 73 = .ok (.iconst 0, 1) := by decide +kernel
theorem dX6_descend_74 : decode cX6_descend 74 = .ok (.istore_n 3, 1) := by decide +kernel
theorem dX6_descend_75 : decode cX6_descend 75 = .ok (.iload_n 3, 1) := by decide +kernel
theorem dX6_descend_76 : decode cX6_descend 76 = .ok (.bipush 10, 2) := by decide +kernel
theorem dX6_descend_78 : decode cX6_descend 78 = .ok (.if_icmp .ge 44, 3) := by decide +kernel
theorem dX6_descend_81 : decode cX6_descend 81 = .ok (.aload_n 0, 1) := by decide +kernel
theorem dX6_descend_82 : decode cX6_descend 82 = .ok (.getfield 19, 3) := by decide +kernel
theorem dX6_descend_85 : decode cX6_descend 85 = .ok (.iload_n 1, 1) := by decide +kernel
theorem dX6_descend_86 : decode cX6_descend 86 = .ok (.iconst 1, 1) := by decide +kernel
theorem dX6_descend_87 : decode cX6_descend 87 = .ok (.iadd, 1) := by decide +kernel
theorem dX6_descend_88 : decode cX6_descend 88 = .ok (.aload_n 0, 1) := by decide +kernel
theorem dX6_descend_89 : decode cX6_descend 89 = .ok (.getfield 28, 3) := by decide +kernel
theorem dX6_descend_92 : decode cX6_descend 92 = .ok (.iload_n 1, 1) := by decide +kernel
theorem dX6_descend_93 : decode cX6_descend 93 = .ok (.iaload, 1) := by decide +kernel
theorem dX6_descend_94 : decode cX6_descend 94 = .ok (.invokestatic 173, 3) := by decide +kernel
theorem dX6_descend_97 : decode cX6_descend 97 = .ok (.iload_n 3, 1) := by decide +kernel
theorem dX6_descend_98 : decode cX6_descend 98 = .ok (.iadd, 1) := by decide +kernel
theorem dX6_descend_99 : decode cX6_descend 99 = .ok (.aload_n 0, 1) := by decide +kernel
theorem dX6_descend_100 : decode cX6_descend 100 = .ok (.getfield 19, 3) := by decide +kernel
theorem dX6_descend_103 : decode cX6_descend 103 = .ok (.iload_n 1, 1) := by decide +kernel
theorem dX6_descend_104 : decode cX6_descend 104 = .ok (.iconst 1, 1) := by decide +kernel
theorem dX6_descend_105 : decode cX6_descend 105 = .ok (.iadd, 1) := by decide +kernel
theorem dX6_descend_106 : decode cX6_descend 106 = .ok (.iload_n 2, 1) := by decide +kernel
theorem dX6_descend_107 : decode cX6_descend 107 = .ok (.iconst 1, 1) := by decide +kernel
theorem dX6_descend_108 : decode cX6_descend 108 = .ok (.isub, 1) := by decide +kernel
theorem dX6_descend_109 : decode cX6_descend 109 = .ok (.invokestatic 173, 3) := by decide +kernel
theorem dX6_descend_112 : decode cX6_descend 112 = .ok (.iload_n 3, 1) := by decide +kernel
theorem dX6_descend_113 : decode cX6_descend 113 = .ok (.iadd, 1) := by decide +kernel
theorem dX6_descend_114 : decode cX6_descend 114 = .ok (.iaload, 1) := by decide +kernel
theorem dX6_descend_115 : decode cX6_descend 115 = .ok (.iastore, 1) := by decide +kernel
theorem dX6_descend_116 : decode cX6_descend 116 = .ok (.iinc 3 1, 3) := by decide +kernel
theorem dX6_descend_119 : decode cX6_descend 119 = .ok (.goto (-44), 3) := by decide +kernel
theorem dX6_descend_122 : decode cX6_descend 122 = .ok (.aload_n 0, 1) := by decide +kernel
theorem dX6_descend_123 : decode cX6_descend 123 = .ok (.getfield 25, 3) := by decide +kernel
theorem dX6_descend_126 : decode cX6_descend 126 = .ok (.iload_n 1, 1) := by decide +kernel
theorem dX6_descend_127 : decode cX6_descend 127 = .ok (.iconst 1, 1) := by decide +kernel
theorem dX6_descend_128 : decode cX6_descend 128 = .ok (.iadd, 1) := by decide +kernel
theorem dX6_descend_129 : decode cX6_descend 129 = .ok (.iconst 0, 1) := by decide +kernel
theorem dX6_descend_130 : decode cX6_descend 130 = .ok (.iastore, 1) := by decide +kernel
theorem dX6_descend_131 : decode cX6_descend 131 = .ok (.aload_n 0, 1) := by decide +kernel
theorem dX6_descend_132 : decode cX6_descend 132 = .ok (.getfield 28, 3) := by decide +kernel
theorem dX6_descend_135 : decode cX6_descend 135 = .ok (.iload_n 1, 1) := by decide +kernel
theorem dX6_descend_136 : decode cX6_descend 136 = .ok (.iconst 1, 1) := by decide +kernel
theorem dX6_descend_137 : decode cX6_descend 137 = .ok (.iadd, 1) := by decide +kernel
theorem dX6_descend_138 : decode cX6_descend 138 = .ok (.iconst 0, 1) := by decide +kernel
theorem dX6_descend_139 : decode cX6_descend 139 = .ok (.iastore, 1) := by decide +kernel
theorem dX6_descend_140 : decode cX6_descend 140 = .ok (.return_, 1) := by decide +kernel
theorem dX6_nextPair_0 : decode cX6_nextPair 0 = .ok (.aload_n 0, 1) := by decide +kernel
theorem dX6_nextPair_1 : decode cX6_nextPair 1 = .ok (.getfield 28, 3) := by decide +kernel
theorem dX6_nextPair_4 : decode cX6_nextPair 4 = .ok (.iload_n 1, 1) := by decide +kernel
theorem dX6_nextPair_5 : decode cX6_nextPair 5 = .ok (.dup2, 1) := by decide +kernel
theorem dX6_nextPair_6 : decode cX6_nextPair 6 = .ok (.iaload, 1) := by decide +kernel
theorem dX6_nextPair_7 : decode cX6_nextPair 7 = .ok (.iconst 1, 1) := by decide +kernel
theorem dX6_nextPair_8 : decode cX6_nextPair 8 = .ok (.iadd, 1) := by decide +kernel
theorem dX6_nextPair_9 : decode cX6_nextPair 9 = .ok (.iastore, 1) := by decide +kernel
theorem dX6_nextPair_10 : decode cX6_nextPair 10 = .ok (.aload_n 0, 1) := by decide +kernel
theorem dX6_nextPair_11 : decode cX6_nextPair 11 = .ok (.getfield 28, 3) := by decide +kernel
theorem dX6_nextPair_14 : decode cX6_nextPair 14 = .ok (.iload_n 1, 1) := by decide +kernel
theorem dX6_nextPair_15 : decode cX6_nextPair 15 = .ok (.iaload, 1) := by decide +kernel
theorem dX6_nextPair_16 : decode cX6_nextPair 16 = .ok (.iload_n 2, 1) := by decide +kernel
theorem dX6_nextPair_17 : decode cX6_nextPair 17 = .ok (.if_icmp .ne 27, 3) := by decide +kernel
theorem dX6_nextPair_20 : decode cX6_nextPair 20 = .ok (.aload_n 0, 1) := by decide +kernel
theorem dX6_nextPair_21 : decode cX6_nextPair 21 = .ok (.getfield 25, 3) := by decide +kernel
theorem dX6_nextPair_24 : decode cX6_nextPair 24 = .ok (.iload_n 1, 1) := by decide +kernel
theorem dX6_nextPair_25 : decode cX6_nextPair 25 = .ok (.dup2, 1) := by decide +kernel
theorem dX6_nextPair_26 : decode cX6_nextPair 26 = .ok (.iaload, 1) := by decide +kernel
theorem dX6_nextPair_27 : decode cX6_nextPair 27 = .ok (.iconst 1, 1) := by decide +kernel
theorem dX6_nextPair_28 : decode cX6_nextPair 28 = .ok (.iadd, 1) := by decide +kernel
theorem dX6_nextPair_29 : decode cX6_nextPair 29 = .ok (.iastore, 1) := by decide +kernel
theorem dX6_nextPair_30 : decode cX6_nextPair 30 = .ok (.aload_n 0, 1) := by decide +kernel
theorem dX6_nextPair_31 : decode cX6_nextPair 31 = .ok (.getfield 28, 3) := by decide +kernel
theorem dX6_nextPair_34 : decode cX6_nextPair 34 = .ok (.iload_n 1, 1) := by decide +kernel
theorem dX6_nextPair_35 : decode cX6_nextPair 35 = .ok (.aload_n 0, 1) := by decide +kernel
theorem dX6_nextPair_36 : decode cX6_nextPair 36 = .ok (.getfield 25, 3) := by decide +kernel
theorem dX6_nextPair_39 : decode cX6_nextPair 39 = .ok (.iload_n 1, 1) := by decide +kernel
theorem dX6_nextPair_40 : decode cX6_nextPair 40 = .ok (.iaload, 1) := by decide +kernel
theorem dX6_nextPair_41 : decode cX6_nextPair 41 = .ok (.iconst 1, 1) := by decide +kernel
theorem dX6_nextPair_42 : decode cX6_nextPair 42 = .ok (.iadd, 1) := by decide +kernel
theorem dX6_nextPair_43 : decode cX6_nextPair 43 = .ok (.iastore, 1) := by decide +kernel
theorem dX6_nextPair_44 : decode cX6_nextPair 44 = .ok (.aload_n 0, 1) := by decide +kernel
theorem dX6_nextPair_45 : decode cX6_nextPair 45 = .ok (.getfield 28, 3) := by decide +kernel
theorem dX6_nextPair_48 : decode cX6_nextPair 48 = .ok (.iload_n 1, 1) := by decide +kernel
theorem dX6_nextPair_49 : decode cX6_nextPair 49 = .ok (.iaload, 1) := by decide +kernel
theorem dX6_nextPair_50 : decode cX6_nextPair 50 = .ok (.iload_n 2, 1) := by decide +kernel
theorem dX6_nextPair_51 : decode cX6_nextPair 51 = .ok (.if_icmp .ge 7, 3) := by decide +kernel
theorem dX6_nextPair_54 : decode cX6_nextPair 54 = .ok (.iconst 1, 1) := by decide +kernel
theorem dX6_nextPair_55 : decode cX6_nextPair 55 = .ok (.goto 4, 3) := by decide +kernel
theorem dX6_nextPair_58 : decode cX6_nextPair 58 = .ok (.iconst 0, 1) := by decide +kernel
theorem dX6_nextPair_59 : decode cX6_nextPair 59 = .ok (.ireturn, 1) := by decide +kernel
theorem dX6_searchPlans_0 : decode cX6_searchPlans 0 = .ok (.aload_n 0, 1) := by decide +kernel
theorem dX6_searchPlans_1 : decode cX6_searchPlans 1 = .ok (.invokevirtual 176, 3) := by decide +kernel
theorem dX6_searchPlans_4 : decode cX6_searchPlans 4 = .ok (.istore_n 1, 1) := by decide +kernel
theorem dX6_searchPlans_5 : decode cX6_searchPlans 5 = .ok (.aload_n 0, 1) := by decide +kernel
theorem dX6_searchPlans_6 : decode cX6_searchPlans 6 = .ok (.iload_n 1, 1) := by decide +kernel
theorem dX6_searchPlans_7 : decode cX6_searchPlans 7 = .ok (.iconst 1, 1) := by decide +kernel
theorem dX6_searchPlans_8 : decode cX6_searchPlans 8 = .ok (.if_icmp .ne 7, 3) := by decide +kernel
theorem dX6_searchPlans_11 : decode cX6_searchPlans 11 = .ok (.iconst 0, 1) := by decide +kernel
theorem dX6_searchPlans_12 : decode cX6_searchPlans 12 = .ok (.goto 6, 3) := by decide +kernel
theorem dX6_searchPlans_15 : decode cX6_searchPlans 15 = .ok (.sipush 1000, 3) := by decide +kernel
theorem dX6_searchPlans_18 : decode cX6_searchPlans 18 = .ok (.putfield 180, 3) := by decide +kernel
theorem dX6_searchPlans_21 : decode cX6_searchPlans 21 = .ok (.aload_n 0, 1) := by decide +kernel
theorem dX6_searchPlans_22 : decode cX6_searchPlans 22 = .ok (.bipush (-9), 2) := by decide +kernel
theorem dX6_searchPlans_24 : decode cX6_searchPlans 24 = .ok (.putfield 183, 3) := by decide +kernel
theorem dX6_searchPlans_27 : decode cX6_searchPlans 27 = .ok (.iconst 0, 1) := by decide +kernel
theorem dX6_searchPlans_28 : decode cX6_searchPlans 28 = .ok (.istore_n 2, 1) := by decide +kernel
theorem dX6_searchPlans_29 : decode cX6_searchPlans 29 = .ok (.aload_n 0, 1) := by decide +kernel
theorem dX6_searchPlans_30 : decode cX6_searchPlans 30 = .ok (.getfield 25, 3) := by decide +kernel
theorem dX6_searchPlans_33 : decode cX6_searchPlans 33 = .ok (.iconst 0, 1) := by decide +kernel
theorem dX6_searchPlans_34 : decode cX6_searchPlans 34 = .ok (.iconst 0, 1) := by decide +kernel
theorem dX6_searchPlans_35 : decode cX6_searchPlans 35 = .ok (.iastore, 1) := by decide +kernel
theorem dX6_searchPlans_36 : decode cX6_searchPlans 36 = .ok (.aload_n 0, 1) := by decide +kernel
theorem dX6_searchPlans_37 : decode cX6_searchPlans 37 = .ok (.getfield 28, 3) := by decide +kernel
theorem dX6_searchPlans_40 : decode cX6_searchPlans 40 = .ok (.iconst 0, 1) := by decide +kernel
theorem dX6_searchPlans_41 : decode cX6_searchPlans 41 = .ok (.iconst 0, 1) := by decide +kernel
theorem dX6_searchPlans_42 : decode cX6_searchPlans 42 = .ok (.iastore, 1) := by decide +kernel
theorem dX6_searchPlans_43 : decode cX6_searchPlans 43 = .ok (.aload_n 0, 1) := by decide +kernel
theorem dX6_searchPlans_44 : decode cX6_searchPlans 44 = .ok (.getfield 31, 3) := by decide +kernel
theorem dX6_searchPlans_47 : decode cX6_searchPlans 47 = .ok (.iconst 0, 1) := by decide +kernel
theorem dX6_searchPlans_48 : decode cX6_searchPlans 48 = .ok (.iconst 0, 1) := by decide +kernel
theorem dX6_searchPlans_49 : decode cX6_searchPlans 49 = .ok (.iastore, 1) := by decide +kernel
theorem dX6_searchPlans_50 : decode cX6_searchPlans 50 = .ok (.iload_n 2, 1) := by decide +kernel
theorem dX6_searchPlans_51 : decode cX6_searchPlans 51 = .ok (.ifCond .lt 122, 3) := by decide +kernel
theorem dX6_searchPlans_54 : decode cX6_searchPlans 54 = .ok (.iload_n 1, 1) := by decide +kernel
theorem dX6_searchPlans_55 : decode cX6_searchPlans 55 = .ok (.iconst 1, 1) := by decide +kernel
theorem dX6_searchPlans_56 : decode cX6_searchPlans 56 = .ok (.if_icmp .le 117, 3) := by decide +kernel
theorem dX6_searchPlans_59 : decode cX6_searchPlans 59 = .ok (.aload_n 0, 1) := by decide +kernel
theorem dX6_searchPlans_60 : decode cX6_searchPlans 60 = .ok (.iload_n 2, 1) := by decide +kernel
theorem dX6_searchPlans_61 : decode cX6_searchPlans 61 = .ok (.iload_n 1, 1) := by decide +kernel
theorem dX6_searchPlans_62 : decode cX6_searchPlans 62 = .ok (.iload_n 2, 1) := by decide +kernel
theorem dX6_searchPlans_63 : decode cX6_searchPlans 63 = .ok (.isub, 1) := by decide +kernel
theorem dX6_searchPlans_64 : decode cX6_searchPlans 64 = .ok (.invokevirtual 186, 3) := by decide +kernel
theorem dX6_searchPlans_67 : decode cX6_searchPlans 67 = .ok (.ifCond .ne 9, 3) := by decide +kernel
theorem dX6_searchPlans_70 : decode cX6_searchPlans 70 = .ok (.iinc 2 (-1), 3) := by decide +kernel
theorem dX6_searchPlans_73 : decode cX6_searchPlans 73 = .ok (.goto (-23), 3) := by decide +kernel
theorem dX6_searchPlans_76 : decode cX6_searchPlans 76 = .ok (.aload_n 0, 1) := by decide +kernel
theorem dX6_searchPlans_77 : decode cX6_searchPlans 77 = .ok (.iload_n 2, 1) := by decide +kernel
theorem dX6_searchPlans_78 : decode cX6_searchPlans 78 = .ok (.iload_n 1, 1) := by decide +kernel
theorem dX6_searchPlans_79 : decode cX6_searchPlans 79 = .ok (.iload_n 2, 1) := by decide +kernel
theorem dX6_searchPlans_80 : decode cX6_searchPlans 80 = .ok (.isub, 1) := by decide +kernel
theorem dX6_searchPlans_81 : decode cX6_searchPlans 81 = .ok (.invokevirtual 189, 3) := by decide +kernel
theorem dX6_searchPlans_84 : decode cX6_searchPlans 84 = .ok (.iload_n 1, 1) := by decide +kernel
theorem dX6_searchPlans_85 : decode cX6_searchPlans 85 = .ok (.iload_n 2, 1) := by decide +kernel
theorem dX6_searchPlans_86 : decode cX6_searchPlans 86 = .ok (.isub, 1) := by decide +kernel
theorem dX6_searchPlans_87 : decode cX6_searchPlans 87 = .ok (.iconst 2, 1) := by decide +kernel
theorem dX6_searchPlans_88 : decode cX6_searchPlans 88 = .ok (.if_icmp .ne 7, 3) := by decide +kernel
theorem dX6_searchPlans_91 : decode cX6_searchPlans 91 = .ok (.iconst 1, 1) := by decide +kernel
theorem dX6_searchPlans_92 : decode cX6_searchPlans 92 = .ok (.goto 4, 3) := by decide +kernel
theorem dX6_searchPlans_95 : decode cX6_searchPlans 95 = .ok (.iconst 0, 1) := by decide +kernel
theorem dX6_searchPlans_96 : decode cX6_searchPlans 96 = .ok (.istore_n 3, 1) := by decide +kernel
theorem dX6_searchPlans_97 : decode cX6_searchPlans 97 = .ok (.iload_n 3, 1) := by decide +kernel
theorem dX6_searchPlans_98 : decode cX6_searchPlans 98 = .ok (.ifCond .eq 60, 3) := by decide +kernel
theorem dX6_searchPlans_101 : decode cX6_searchPlans 101 = .ok (.aload_n 0, 1) := by decide +kernel
theorem dX6_searchPlans_102 : decode cX6_searchPlans 102 = .ok (.getfield 31, 3) := by decide +kernel
theorem dX6_searchPlans_105 : decode cX6_searchPlans 105 = .ok (.iload_n 2, 1) := by decide +kernel
theorem dX6_searchPlans_106 : decode cX6_searchPlans 106 = .ok (.iconst 1, 1) := by decide +kernel
theorem dX6_searchPlans_107 : decode cX6_searchPlans 107 = .ok (.iadd, 1) := by decide +kernel
theorem dX6_searchPlans_108 : decode cX6_searchPlans 108 = .ok (.iaload, 1) := by decide +kernel
theorem dX6_searchPlans_109 : decode cX6_searchPlans 109 = .ok (.aload_n 0, 1) := by decide +kernel
theorem dX6_searchPlans_110 : decode cX6_searchPlans 110 = .ok (.getfield 180, 3) := by decide +kernel
theorem dX6_searchPlans_113 : decode cX6_searchPlans 113 = .ok (.if_icmp .ge 45, 3) := by decide +kernel
theorem dX6_searchPlans_116 : decode cX6_searchPlans 116 = .ok (.aload_n 0, 1) := by decide +kernel
theorem dX6_searchPlans_117 : decode cX6_searchPlans 117 = .ok (.aload_n 0, 1) := by decide +kernel
theorem dX6_searchPlans_118 : decode cX6_searchPlans 118 = .ok (.getfield 31, 3) := by decide +kernel
theorem dX6_searchPlans_121 : decode cX6_searchPlans 121 = .ok (.iload_n 2, 1) := by decide +kernel
theorem dX6_searchPlans_122 : decode cX6_searchPlans 122 = .ok (.iconst 1, 1) := by decide +kernel
theorem dX6_searchPlans_123 : decode cX6_searchPlans 123 = .ok (.iadd, 1) := by decide +kernel
theorem dX6_searchPlans_124 : decode cX6_searchPlans 124 = .ok (.iaload, 1) := by decide +kernel
theorem dX6_searchPlans_125 : decode cX6_searchPlans 125 = .ok (.putfield 180, 3) := by decide +kernel
theorem dX6_searchPlans_128 : decode cX6_searchPlans 128 = .ok (.aload_n 0, 1) := by decide +kernel
theorem dX6_searchPlans_129 : decode cX6_searchPlans 129 = .ok (.bipush 10, 2) := by decide +kernel
theorem dX6_searchPlans_131 : decode cX6_searchPlans 131 = .ok (.aload_n 0, 1) := by decide +kernel
theorem dX6_searchPlans_132 : decode cX6_searchPlans 132 = .ok (.getfield 22, 3) := by decide +kernel
theorem dX6_searchPlans_135 : decode cX6_searchPlans 135 = .ok (.aload_n 0, 1) := by decide +kernel
theorem dX6_searchPlans_136 : decode cX6_searchPlans 136 = .ok (.getfield 25, 3) := by decide +kernel
theorem dX6_searchPlans_139 : decode cX6_searchPlans 139 = .ok (.iconst 0, 1) := by decide +kernel
theorem dX6_searchPlans_140 : decode cX6_searchPlans 140 = .ok (.iaload, 1) := by decide +kernel
theorem dX6_searchPlans_141 : decode cX6_searchPlans 141 = .ok (.iaload, 1) := by decide +kernel
theorem dX6_searchPlans_142 : decode cX6_searchPlans 142 = .ok (.imul, 1) := by decide +kernel
theorem dX6_searchPlans_143 : decode cX6_searchPlans 143 = .ok (.aload_n 0, 1) := by decide +kernel
theorem dX6_searchPlans_144 : decode cX6_searchPlans 144 = .ok (.getfield 22, 3) := by decide +kernel
theorem dX6_searchPlans_147 : decode cX6_searchPlans 147 = .ok (.aload_n 0, 1) := by decide +kernel
theorem dX6_searchPlans_148 : decode cX6_searchPlans 148 = .ok (.getfield 28, 3) := by decide +kernel
theorem dX6_searchPlans_151 : decode cX6_searchPlans 151 = .ok (.iconst 0, 1) := by decide +kernel
theorem dX6_searchPlans_152 : decode cX6_searchPlans 152 = .ok (.iaload, 1) := by decide +kernel
theorem dX6_searchPlans_153 : decode cX6_searchPlans 153 = .ok (.iaload, 1) := by decide +kernel
theorem dX6_searchPlans_154 : decode cX6_searchPlans 154 = .ok (.iadd, 1) := by decide +kernel
theorem dX6_searchPlans_155 : decode cX6_searchPlans 155 = .ok (.putfield 183, 3) := by decide +kernel
theorem dX6_searchPlans_158 : decode cX6_searchPlans 158 = .ok (.iload_n 2, 1) := by decide +kernel
theorem dX6_searchPlans_159 : decode cX6_searchPlans 159 = .ok (.iload_n 3, 1) := by decide +kernel
theorem dX6_searchPlans_160 : decode cX6_searchPlans 160 = .ok (.ifCond .eq 7, 3) := by decide +kernel
theorem dX6_searchPlans_163 : decode cX6_searchPlans 163 = .ok (.iconst 0, 1) := by decide +kernel
theorem dX6_searchPlans_164 : decode cX6_searchPlans 164 = .ok (.goto 4, 3) := by decide +kernel
theorem dX6_searchPlans_167 : decode cX6_searchPlans 167 = .ok (.iconst 1, 1) := by decide +kernel
theorem dX6_searchPlans_168 : decode cX6_searchPlans 168 = .ok (.iadd, 1) := by decide +kernel
theorem dX6_searchPlans_169 : decode cX6_searchPlans 169 = .ok (.istore_n 2, 1) := by decide +kernel
theorem dX6_searchPlans_170 : decode cX6_searchPlans 170 = .ok (.goto (-120), 3) := by decide +kernel
theorem dX6_searchPlans_173 : decode cX6_searchPlans 173 = .ok (.return_, 1) := by decide +kernel
theorem dX6_fewestKills_0 : decode cX6_fewestKills 0 = .ok (.aload_n 0, 1) := by decide +kernel
theorem dX6_fewestKills_1 : decode cX6_fewestKills 1 = .ok (.invokevirtual 192, 3) := by decide +kernel
theorem dX6_fewestKills_4 : decode cX6_fewestKills 4 = .ok (.aload_n 0, 1) := by decide +kernel
theorem dX6_fewestKills_5 : decode cX6_fewestKills 5 = .ok (.getfield 180, 3) := by decide +kernel
theorem dX6_fewestKills_8 : decode cX6_fewestKills 8 = .ok (.ireturn, 1) := by decide +kernel
theorem dX6_bestFirstLink_0 : decode cX6_bestFirstLink 0 = .ok (.aload_n 0, 1) := by decide +kernel
theorem dX6_bestFirstLink_1 : decode cX6_bestFirstLink 1 = .ok (.invokevirtual 192, 3) := by decide +kernel
theorem dX6_bestFirstLink_4 : decode cX6_bestFirstLink 4 = .ok (.aload_n 0, 1) := by decide +kernel
theorem dX6_bestFirstLink_5 : decode cX6_bestFirstLink 5 = .ok (.getfield 183, 3) := by decide +kernel
theorem dX6_bestFirstLink_8 : decode cX6_bestFirstLink 8 = .ok (.ireturn, 1) := by decide +kernel
end
section
theorem dL_law_0 : decode cL_law 0 = .ok (.new 7, 3) := by decide +kernel
theorem dL_law_3 : decode cL_law 3 = .ok (.dup, 1) := by decide +kernel
theorem dL_law_4 : decode cL_law 4 = .ok (.invokespecial 9, 3) := by decide +kernel
theorem dL_law_7 : decode cL_law 7 = .ok (.astore_n 1, 1) := by decide +kernel
theorem dL_law_8 : decode cL_law 8 = .ok (.new 10, 3) := by decide +kernel
theorem dL_law_11 : decode cL_law 11 = .ok (.dup, 1) := by decide +kernel
theorem dL_law_12 : decode cL_law 12 = .ok (.invokespecial 12, 3) := by decide +kernel
theorem dL_law_15 : decode cL_law 15 = .ok (.astore_n 2, 1) := by decide +kernel
theorem dL_law_16 : decode cL_law 16 = .ok (.iconst 0, 1) := by decide +kernel
theorem dL_law_17 : decode cL_law 17 = .ok (.istore_n 3, 1) := by decide +kernel
theorem dL_law_18 : decode cL_law 18 = .ok (.iload_n 3, 1) := by decide +kernel
theorem dL_law_19 : decode cL_law 19 = .ok (.aload_n 0, 1) := by decide +kernel
theorem dL_law_20 : decode cL_law 20 = .ok (.arraylength, 1) := by decide +kernel
theorem dL_law_21 : decode cL_law 21 = .ok (.iconst 5, 1) := by decide +kernel
theorem dL_law_22 : decode cL_law 22 = .ok (.isub, 1) := by decide +kernel
theorem dL_law_23 : decode cL_law 23 = .ok (.if_icmp .gt 1021, 3) := by decide +kernel
theorem dL_law_26 : decode cL_law 26 = .ok (.aload_n 0, 1) := by decide +kernel
theorem dL_law_27 : decode cL_law 27 = .ok (.iload_n 3, 1) := by decide +kernel
theorem dL_law_28 : decode cL_law 28 = .ok (.iaload, 1) := by decide +kernel
theorem dL_law_29 : decode cL_law 29 = .ok (.bipush 31, 2) := by decide +kernel
theorem dL_law_31 : decode cL_law 31 = .ok (.iand, 1) := by decide +kernel
theorem dL_law_32 : decode cL_law 32 = .ok (.tableswitch 1006 0 29 #[136, 159, 192, 225, 248, 261, 294, 327, 360, 403, 436, 469, 492, 535, 578, 631, 654, 667, 710, 743, 776, 809, 842, 855, 868, 901, 934, 967, 980, 993], 136) := by decide +kernel
theorem dL_law_168 : decode cL_law 168 = .ok (.aload_n 1, 1) := by decide +kernel
theorem dL_law_169 : decode cL_law 169 = .ok (.aload_n 0, 1) := by decide +kernel
theorem dL_law_170 : decode cL_law 170 = .ok (.iload_n 3, 1) := by decide +kernel
theorem dL_law_171 : decode cL_law 171 = .ok (.iconst 1, 1) := by decide +kernel
theorem dL_law_172 : decode cL_law 172 = .ok (.iadd, 1) := by decide +kernel
theorem dL_law_173 : decode cL_law 173 = .ok (.iaload, 1) := by decide +kernel
theorem dL_law_174 : decode cL_law 174 = .ok (.invokevirtual 13, 3) := by decide +kernel
theorem dL_law_177 : decode cL_law 177 = .ok (.aload_n 2, 1) := by decide +kernel
theorem dL_law_178 : decode cL_law 178 = .ok (.aload_n 0, 1) := by decide +kernel
theorem dL_law_179 : decode cL_law 179 = .ok (.iload_n 3, 1) := by decide +kernel
theorem dL_law_180 : decode cL_law 180 = .ok (.iconst 1, 1) := by decide +kernel
theorem dL_law_181 : decode cL_law 181 = .ok (.iadd, 1) := by decide +kernel
theorem dL_law_182 : decode cL_law 182 = .ok (.iaload, 1) := by decide +kernel
theorem dL_law_183 : decode cL_law 183 = .ok (.invokevirtual 17, 3) := by decide +kernel
theorem dL_law_186 : decode cL_law 186 = .ok (.if_icmp .eq 852, 3) := by decide +kernel
theorem dL_law_189 : decode cL_law 189 = .ok (.iconst 0, 1) := by decide +kernel
theorem dL_law_190 : decode cL_law 190 = .ok (.ireturn, 1) := by decide +kernel
theorem dL_law_191 : decode cL_law 191 = .ok (.aload_n 1, 1) := by decide +kernel
theorem dL_law_192 : decode cL_law 192 = .ok (.aload_n 0, 1) := by decide +kernel
theorem dL_law_193 : decode cL_law 193 = .ok (.iload_n 3, 1) := by decide +kernel
theorem dL_law_194 : decode cL_law 194 = .ok (.iconst 1, 1) := by decide +kernel
theorem dL_law_195 : decode cL_law 195 = .ok (.iadd, 1) := by decide +kernel
theorem dL_law_196 : decode cL_law 196 = .ok (.iaload, 1) := by decide +kernel
theorem dL_law_197 : decode cL_law 197 = .ok (.aload_n 0, 1) := by decide +kernel
theorem dL_law_198 : decode cL_law 198 = .ok (.iload_n 3, 1) := by decide +kernel
theorem dL_law_199 : decode cL_law 199 = .ok (.iconst 2, 1) := by decide +kernel
theorem dL_law_200 : decode cL_law 200 = .ok (.iadd, 1) := by decide +kernel
theorem dL_law_201 : decode cL_law 201 = .ok (.iaload, 1) := by decide +kernel
theorem dL_law_202 : decode cL_law 202 = .ok (.invokevirtual 18, 3) := by decide +kernel
theorem dL_law_205 : decode cL_law 205 = .ok (.aload_n 2, 1) := by decide +kernel
theorem dL_law_206 : decode cL_law 206 = .ok (.aload_n 0, 1) := by decide +kernel
theorem dL_law_207 : decode cL_law 207 = .ok (.iload_n 3, 1) := by decide +kernel
theorem dL_law_208 : decode cL_law 208 = .ok (.iconst 1, 1) := by decide +kernel
theorem dL_law_209 : decode cL_law 209 = .ok (.iadd, 1) := by decide +kernel
theorem dL_law_210 : decode cL_law 210 = .ok (.iaload, 1) := by decide +kernel
theorem dL_law_211 : decode cL_law 211 = .ok (.aload_n 0, 1) := by decide +kernel
theorem dL_law_212 : decode cL_law 212 = .ok (.iload_n 3, 1) := by decide +kernel
theorem dL_law_213 : decode cL_law 213 = .ok (.iconst 2, 1) := by decide +kernel
theorem dL_law_214 : decode cL_law 214 = .ok (.iadd, 1) := by decide +kernel
theorem dL_law_215 : decode cL_law 215 = .ok (.iaload, 1) := by decide +kernel
theorem dL_law_216 : decode cL_law 216 = .ok (.invokevirtual 22, 3) := by decide +kernel
theorem dL_law_219 : decode cL_law 219 = .ok (.if_icmp .eq 819, 3) := by decide +kernel
theorem dL_law_222 : decode cL_law 222 = .ok (.iconst 0, 1) := by decide +kernel
theorem dL_law_223 : decode cL_law 223 = .ok (.ireturn, 1) := by decide +kernel
theorem dL_law_224 : decode cL_law 224 = .ok (.aload_n 1, 1) := by decide +kernel
theorem dL_law_225 : decode cL_law 225 = .ok (.aload_n 0, 1) := by decide +kernel
theorem dL_law_226 : decode cL_law 226 = .ok (.iload_n 3, 1) := by decide +kernel
theorem dL_law_227 : decode cL_law 227 = .ok (.iconst 1, 1) := by decide +kernel
theorem dL_law_228 : decode cL_law 228 = .ok (.iadd, 1) := by decide +kernel
theorem dL_law_229 : decode cL_law 229 = .ok (.iaload, 1) := by decide +kernel
theorem dL_law_230 : decode cL_law 230 = .ok (.aload_n 0, 1) := by decide +kernel
theorem dL_law_231 : decode cL_law 231 = .ok (.iload_n 3, 1) := by decide +kernel
theorem dL_law_232 : decode cL_law 232 = .ok (.iconst 2, 1) := by decide +kernel
theorem dL_law_233 : decode cL_law 233 = .ok (.iadd, 1) := by decide +kernel
theorem dL_law_234 : decode cL_law 234 = .ok (.iaload, 1) := by decide +kernel
theorem dL_law_235 : decode cL_law 235 = .ok (.invokevirtual 23, 3) := by decide +kernel
theorem dL_law_238 : decode cL_law 238 = .ok (.aload_n 2, 1) := by decide +kernel
theorem dL_law_239 : decode cL_law 239 = .ok (.aload_n 0, 1) := by decide +kernel
theorem dL_law_240 : decode cL_law 240 = .ok (.iload_n 3, 1) := by decide +kernel
theorem dL_law_241 : decode cL_law 241 = .ok (.iconst 1, 1) := by decide +kernel
theorem dL_law_242 : decode cL_law 242 = .ok (.iadd, 1) := by decide +kernel
theorem dL_law_243 : decode cL_law 243 = .ok (.iaload, 1) := by decide +kernel
theorem dL_law_244 : decode cL_law 244 = .ok (.aload_n 0, 1) := by decide +kernel
theorem dL_law_245 : decode cL_law 245 = .ok (.iload_n 3, 1) := by decide +kernel
theorem dL_law_246 : decode cL_law 246 = .ok (.iconst 2, 1) := by decide +kernel
theorem dL_law_247 : decode cL_law 247 = .ok (.iadd, 1) := by decide +kernel
theorem dL_law_248 : decode cL_law 248 = .ok (.iaload, 1) := by decide +kernel
theorem dL_law_249 : decode cL_law 249 = .ok (.invokevirtual 26, 3) := by decide +kernel
theorem dL_law_252 : decode cL_law 252 = .ok (.if_icmp .eq 786, 3) := by decide +kernel
theorem dL_law_255 : decode cL_law 255 = .ok (.iconst 0, 1) := by decide +kernel
theorem dL_law_256 : decode cL_law 256 = .ok (.ireturn, 1) := by decide +kernel
theorem dL_law_257 : decode cL_law 257 = .ok (.aload_n 1, 1) := by decide +kernel
theorem dL_law_258 : decode cL_law 258 = .ok (.aload_n 0, 1) := by decide +kernel
theorem dL_law_259 : decode cL_law 259 = .ok (.iload_n 3, 1) := by decide +kernel
theorem dL_law_260 : decode cL_law 260 = .ok (.iconst 1, 1) := by decide +kernel
theorem dL_law_261 : decode cL_law 261 = .ok (.iadd, 1) := by decide +kernel
theorem dL_law_262 : decode cL_law 262 = .ok (.iaload, 1) := by decide +kernel
theorem dL_law_263 : decode cL_law 263 = .ok (.invokevirtual 27, 3) := by decide +kernel
theorem dL_law_266 : decode cL_law 266 = .ok (.aload_n 2, 1) := by decide +kernel
theorem dL_law_267 : decode cL_law 267 = .ok (.aload_n 0, 1) := by decide +kernel
theorem dL_law_268 : decode cL_law 268 = .ok (.iload_n 3, 1) := by decide +kernel
theorem dL_law_269 : decode cL_law 269 = .ok (.iconst 1, 1) := by decide +kernel
theorem dL_law_270 : decode cL_law 270 = .ok (.iadd, 1) := by decide +kernel
theorem dL_law_271 : decode cL_law 271 = .ok (.iaload, 1) := by decide +kernel
theorem dL_law_272 : decode cL_law 272 = .ok (.invokevirtual 30, 3) := by decide +kernel
theorem dL_law_275 : decode cL_law 275 = .ok (.if_icmp .eq 763, 3) := by decide +kernel
theorem dL_law_278 : decode cL_law 278 = .ok (.iconst 0, 1) := by decide +kernel
theorem dL_law_279 : decode cL_law 279 = .ok (.ireturn, 1) := by decide +kernel
theorem dL_law_280 : decode cL_law 280 = .ok (.aload_n 1, 1) := by decide +kernel
theorem dL_law_281 : decode cL_law 281 = .ok (.invokevirtual 31, 3) := by decide +kernel
theorem dL_law_284 : decode cL_law 284 = .ok (.aload_n 2, 1) := by decide +kernel
theorem dL_law_285 : decode cL_law 285 = .ok (.invokevirtual 35, 3) := by decide +kernel
theorem dL_law_288 : decode cL_law 288 = .ok (.if_icmp .eq 750, 3) := by decide +kernel
theorem dL_law_291 : decode cL_law 291 = .ok (.iconst 0, 1) := by decide +kernel
theorem dL_law_292 : decode cL_law 292 = .ok (.ireturn, 1) := by decide +kernel
theorem dL_law_293 : decode cL_law 293 = .ok (.aload_n 1, 1) := by decide +kernel
theorem dL_law_294 : decode cL_law 294 = .ok (.aload_n 0, 1) := by decide +kernel
theorem dL_law_295 : decode cL_law 295 = .ok (.iload_n 3, 1) := by decide +kernel
theorem dL_law_296 : decode cL_law 296 = .ok (.iconst 1, 1) := by decide +kernel
theorem dL_law_297 : decode cL_law 297 = .ok (.iadd, 1) := by decide +kernel
theorem dL_law_298 : decode cL_law 298 = .ok (.iaload, 1) := by decide +kernel
theorem dL_law_299 : decode cL_law 299 = .ok (.aload_n 0, 1) := by decide +kernel
theorem dL_law_300 : decode cL_law 300 = .ok (.iload_n 3, 1) := by decide +kernel
theorem dL_law_301 : decode cL_law 301 = .ok (.iconst 2, 1) := by decide +kernel
theorem dL_law_302 : decode cL_law 302 = .ok (.iadd, 1) := by decide +kernel
theorem dL_law_303 : decode cL_law 303 = .ok (.iaload, 1) := by decide +kernel
theorem dL_law_304 : decode cL_law 304 = .ok (.invokevirtual 36, 3) := by decide +kernel
theorem dL_law_307 : decode cL_law 307 = .ok (.aload_n 2, 1) := by decide +kernel
theorem dL_law_308 : decode cL_law 308 = .ok (.aload_n 0, 1) := by decide +kernel
theorem dL_law_309 : decode cL_law 309 = .ok (.iload_n 3, 1) := by decide +kernel
theorem dL_law_310 : decode cL_law 310 = .ok (.iconst 1, 1) := by decide +kernel
theorem dL_law_311 : decode cL_law 311 = .ok (.iadd, 1) := by decide +kernel
theorem dL_law_312 : decode cL_law 312 = .ok (.iaload, 1) := by decide +kernel
theorem dL_law_313 : decode cL_law 313 = .ok (.aload_n 0, 1) := by decide +kernel
theorem dL_law_314 : decode cL_law 314 = .ok (.iload_n 3, 1) := by decide +kernel
theorem dL_law_315 : decode cL_law 315 = .ok (.iconst 2, 1) := by decide +kernel
theorem dL_law_316 : decode cL_law 316 = .ok (.iadd, 1) := by decide +kernel
theorem dL_law_317 : decode cL_law 317 = .ok (.iaload, 1) := by decide +kernel
theorem dL_law_318 : decode cL_law 318 = .ok (.invokevirtual 39, 3) := by decide +kernel
theorem dL_law_321 : decode cL_law 321 = .ok (.if_icmp .eq 717, 3) := by decide +kernel
theorem dL_law_324 : decode cL_law 324 = .ok (.iconst 0, 1) := by decide +kernel
theorem dL_law_325 : decode cL_law 325 = .ok (.ireturn, 1) := by decide +kernel
theorem dL_law_326 : decode cL_law 326 = .ok (.aload_n 1, 1) := by decide +kernel
theorem dL_law_327 : decode cL_law 327 = .ok (.aload_n 0, 1) := by decide +kernel
theorem dL_law_328 : decode cL_law 328 = .ok (.iload_n 3, 1) := by decide +kernel
theorem dL_law_329 : decode cL_law 329 = .ok (.iconst 1, 1) := by decide +kernel
theorem dL_law_330 : decode cL_law 330 = .ok (.iadd, 1) := by decide +kernel
theorem dL_law_331 : decode cL_law 331 = .ok (.iaload, 1) := by decide +kernel
theorem dL_law_332 : decode cL_law 332 = .ok (.aload_n 0, 1) := by decide +kernel
theorem dL_law_333 : decode cL_law 333 = .ok (.iload_n 3, 1) := by decide +kernel
theorem dL_law_334 : decode cL_law 334 = .ok (.iconst 2, 1) := by decide +kernel
theorem dL_law_335 : decode cL_law 335 = .ok (.iadd, 1) := by decide +kernel
theorem dL_law_336 : decode cL_law 336 = .ok (.iaload, 1) := by decide +kernel
theorem dL_law_337 : decode cL_law 337 = .ok (.invokevirtual 40, 3) := by decide +kernel
theorem dL_law_340 : decode cL_law 340 = .ok (.aload_n 2, 1) := by decide +kernel
theorem dL_law_341 : decode cL_law 341 = .ok (.aload_n 0, 1) := by decide +kernel
theorem dL_law_342 : decode cL_law 342 = .ok (.iload_n 3, 1) := by decide +kernel
theorem dL_law_343 : decode cL_law 343 = .ok (.iconst 1, 1) := by decide +kernel
theorem dL_law_344 : decode cL_law 344 = .ok (.iadd, 1) := by decide +kernel
theorem dL_law_345 : decode cL_law 345 = .ok (.iaload, 1) := by decide +kernel
theorem dL_law_346 : decode cL_law 346 = .ok (.aload_n 0, 1) := by decide +kernel
theorem dL_law_347 : decode cL_law 347 = .ok (.iload_n 3, 1) := by decide +kernel
theorem dL_law_348 : decode cL_law 348 = .ok (.iconst 2, 1) := by decide +kernel
theorem dL_law_349 : decode cL_law 349 = .ok (.iadd, 1) := by decide +kernel
theorem dL_law_350 : decode cL_law 350 = .ok (.iaload, 1) := by decide +kernel
theorem dL_law_351 : decode cL_law 351 = .ok (.invokevirtual 43, 3) := by decide +kernel
theorem dL_law_354 : decode cL_law 354 = .ok (.if_icmp .eq 684, 3) := by decide +kernel
theorem dL_law_357 : decode cL_law 357 = .ok (.iconst 0, 1) := by decide +kernel
theorem dL_law_358 : decode cL_law 358 = .ok (.ireturn, 1) := by decide +kernel
theorem dL_law_359 : decode cL_law 359 = .ok (.aload_n 1, 1) := by decide +kernel
theorem dL_law_360 : decode cL_law 360 = .ok (.aload_n 0, 1) := by decide +kernel
theorem dL_law_361 : decode cL_law 361 = .ok (.iload_n 3, 1) := by decide +kernel
theorem dL_law_362 : decode cL_law 362 = .ok (.iconst 1, 1) := by decide +kernel
theorem dL_law_363 : decode cL_law 363 = .ok (.iadd, 1) := by decide +kernel
theorem dL_law_364 : decode cL_law 364 = .ok (.iaload, 1) := by decide +kernel
theorem dL_law_365 : decode cL_law 365 = .ok (.aload_n 0, 1) := by decide +kernel
theorem dL_law_366 : decode cL_law 366 = .ok (.iload_n 3, 1) := by decide +kernel
theorem dL_law_367 : decode cL_law 367 = .ok (.iconst 2, 1) := by decide +kernel
theorem dL_law_368 : decode cL_law 368 = .ok (.iadd, 1) := by decide +kernel
theorem dL_law_369 : decode cL_law 369 = .ok (.iaload, 1) := by decide +kernel
theorem dL_law_370 : decode cL_law 370 = .ok (.invokevirtual 44, 3) := by decide +kernel
theorem dL_law_373 : decode cL_law 373 = .ok (.aload_n 2, 1) := by decide +kernel
theorem dL_law_374 : decode cL_law 374 = .ok (.aload_n 0, 1) := by decide +kernel
theorem dL_law_375 : decode cL_law 375 = .ok (.iload_n 3, 1) := by decide +kernel
theorem dL_law_376 : decode cL_law 376 = .ok (.iconst 1, 1) := by decide +kernel
theorem dL_law_377 : decode cL_law 377 = .ok (.iadd, 1) := by decide +kernel
theorem dL_law_378 : decode cL_law 378 = .ok (.iaload, 1) := by decide +kernel
theorem dL_law_379 : decode cL_law 379 = .ok (.aload_n 0, 1) := by decide +kernel
theorem dL_law_380 : decode cL_law 380 = .ok (.iload_n 3, 1) := by decide +kernel
theorem dL_law_381 : decode cL_law 381 = .ok (.iconst 2, 1) := by decide +kernel
theorem dL_law_382 : decode cL_law 382 = .ok (.iadd, 1) := by decide +kernel
theorem dL_law_383 : decode cL_law 383 = .ok (.iaload, 1) := by decide +kernel
theorem dL_law_384 : decode cL_law 384 = .ok (.invokevirtual 47, 3) := by decide +kernel
theorem dL_law_387 : decode cL_law 387 = .ok (.if_icmp .eq 651, 3) := by decide +kernel
theorem dL_law_390 : decode cL_law 390 = .ok (.iconst 0, 1) := by decide +kernel
theorem dL_law_391 : decode cL_law 391 = .ok (.ireturn, 1) := by decide +kernel
theorem dL_law_392 : decode cL_law 392 = .ok (.aload_n 1, 1) := by decide +kernel
theorem dL_law_393 : decode cL_law 393 = .ok (.aload_n 0, 1) := by decide +kernel
theorem dL_law_394 : decode cL_law 394 = .ok (.iload_n 3, 1) := by decide +kernel
theorem dL_law_395 : decode cL_law 395 = .ok (.iconst 1, 1) := by decide +kernel
theorem dL_law_396 : decode cL_law 396 = .ok (.iadd, 1) := by decide +kernel
theorem dL_law_397 : decode cL_law 397 = .ok (.iaload, 1) := by decide +kernel
theorem dL_law_398 : decode cL_law 398 = .ok (.aload_n 0, 1) := by decide +kernel
theorem dL_law_399 : decode cL_law 399 = .ok (.iload_n 3, 1) := by decide +kernel
theorem dL_law_400 : decode cL_law 400 = .ok (.iconst 2, 1) := by decide +kernel
theorem dL_law_401 : decode cL_law 401 = .ok (.iadd, 1) := by decide +kernel
theorem dL_law_402 : decode cL_law 402 = .ok (.iaload, 1) := by decide +kernel
theorem dL_law_403 : decode cL_law 403 = .ok (.aload_n 0, 1) := by decide +kernel
theorem dL_law_404 : decode cL_law 404 = .ok (.iload_n 3, 1) := by decide +kernel
theorem dL_law_405 : decode cL_law 405 = .ok (.iconst 3, 1) := by decide +kernel
theorem dL_law_406 : decode cL_law 406 = .ok (.iadd, 1) := by decide +kernel
theorem dL_law_407 : decode cL_law 407 = .ok (.iaload, 1) := by decide +kernel
theorem dL_law_408 : decode cL_law 408 = .ok (.invokevirtual 48, 3) := by decide +kernel
theorem dL_law_411 : decode cL_law 411 = .ok (.aload_n 2, 1) := by decide +kernel
theorem dL_law_412 : decode cL_law 412 = .ok (.aload_n 0, 1) := by decide +kernel
theorem dL_law_413 : decode cL_law 413 = .ok (.iload_n 3, 1) := by decide +kernel
theorem dL_law_414 : decode cL_law 414 = .ok (.iconst 1, 1) := by decide +kernel
theorem dL_law_415 : decode cL_law 415 = .ok (.iadd, 1) := by decide +kernel
theorem dL_law_416 : decode cL_law 416 = .ok (.iaload, 1) := by decide +kernel
theorem dL_law_417 : decode cL_law 417 = .ok (.aload_n 0, 1) := by decide +kernel
theorem dL_law_418 : decode cL_law 418 = .ok (.iload_n 3, 1) := by decide +kernel
theorem dL_law_419 : decode cL_law 419 = .ok (.iconst 2, 1) := by decide +kernel
theorem dL_law_420 : decode cL_law 420 = .ok (.iadd, 1) := by decide +kernel
theorem dL_law_421 : decode cL_law 421 = .ok (.iaload, 1) := by decide +kernel
theorem dL_law_422 : decode cL_law 422 = .ok (.aload_n 0, 1) := by decide +kernel
theorem dL_law_423 : decode cL_law 423 = .ok (.iload_n 3, 1) := by decide +kernel
theorem dL_law_424 : decode cL_law 424 = .ok (.iconst 3, 1) := by decide +kernel
theorem dL_law_425 : decode cL_law 425 = .ok (.iadd, 1) := by decide +kernel
theorem dL_law_426 : decode cL_law 426 = .ok (.iaload, 1) := by decide +kernel
theorem dL_law_427 : decode cL_law 427 = .ok (.invokevirtual 52, 3) := by decide +kernel
theorem dL_law_430 : decode cL_law 430 = .ok (.if_icmp .eq 608, 3) := by decide +kernel
theorem dL_law_433 : decode cL_law 433 = .ok (.iconst 0, 1) := by decide +kernel
theorem dL_law_434 : decode cL_law 434 = .ok (.ireturn, 1) := by decide +kernel
theorem dL_law_435 : decode cL_law 435 = .ok (.aload_n 1, 1) := by decide +kernel
theorem dL_law_436 : decode cL_law 436 = .ok (.aload_n 0, 1) := by decide +kernel
theorem dL_law_437 : decode cL_law 437 = .ok (.iload_n 3, 1) := by decide +kernel
theorem dL_law_438 : decode cL_law 438 = .ok (.iconst 1, 1) := by decide +kernel
theorem dL_law_439 : decode cL_law 439 = .ok (.iadd, 1) := by decide +kernel
theorem dL_law_440 : decode cL_law 440 = .ok (.iaload, 1) := by decide +kernel
theorem dL_law_441 : decode cL_law 441 = .ok (.aload_n 0, 1) := by decide +kernel
theorem dL_law_442 : decode cL_law 442 = .ok (.iload_n 3, 1) := by decide +kernel
theorem dL_law_443 : decode cL_law 443 = .ok (.iconst 2, 1) := by decide +kernel
theorem dL_law_444 : decode cL_law 444 = .ok (.iadd, 1) := by decide +kernel
theorem dL_law_445 : decode cL_law 445 = .ok (.iaload, 1) := by decide +kernel
theorem dL_law_446 : decode cL_law 446 = .ok (.invokevirtual 53, 3) := by decide +kernel
theorem dL_law_449 : decode cL_law 449 = .ok (.aload_n 2, 1) := by decide +kernel
theorem dL_law_450 : decode cL_law 450 = .ok (.aload_n 0, 1) := by decide +kernel
theorem dL_law_451 : decode cL_law 451 = .ok (.iload_n 3, 1) := by decide +kernel
theorem dL_law_452 : decode cL_law 452 = .ok (.iconst 1, 1) := by decide +kernel
theorem dL_law_453 : decode cL_law 453 = .ok (.iadd, 1) := by decide +kernel
theorem dL_law_454 : decode cL_law 454 = .ok (.iaload, 1) := by decide +kernel
theorem dL_law_455 : decode cL_law 455 = .ok (.aload_n 0, 1) := by decide +kernel
theorem dL_law_456 : decode cL_law 456 = .ok (.iload_n 3, 1) := by decide +kernel
theorem dL_law_457 : decode cL_law 457 = .ok (.iconst 2, 1) := by decide +kernel
theorem dL_law_458 : decode cL_law 458 = .ok (.iadd, 1) := by decide +kernel
theorem dL_law_459 : decode cL_law 459 = .ok (.iaload, 1) := by decide +kernel
theorem dL_law_460 : decode cL_law 460 = .ok (.invokevirtual 56, 3) := by decide +kernel
theorem dL_law_463 : decode cL_law 463 = .ok (.if_icmp .eq 575, 3) := by decide +kernel
theorem dL_law_466 : decode cL_law 466 = .ok (.iconst 0, 1) := by decide +kernel
theorem dL_law_467 : decode cL_law 467 = .ok (.ireturn, 1) := by decide +kernel
theorem dL_law_468 : decode cL_law 468 = .ok (.aload_n 1, 1) := by decide +kernel
theorem dL_law_469 : decode cL_law 469 = .ok (.aload_n 0, 1) := by decide +kernel
theorem dL_law_470 : decode cL_law 470 = .ok (.iload_n 3, 1) := by decide +kernel
theorem dL_law_471 : decode cL_law 471 = .ok (.iconst 1, 1) := by decide +kernel
theorem dL_law_472 : decode cL_law 472 = .ok (.iadd, 1) := by decide +kernel
theorem dL_law_473 : decode cL_law 473 = .ok (.iaload, 1) := by decide +kernel
theorem dL_law_474 : decode cL_law 474 = .ok (.aload_n 0, 1) := by decide +kernel
theorem dL_law_475 : decode cL_law 475 = .ok (.iload_n 3, 1) := by decide +kernel
theorem dL_law_476 : decode cL_law 476 = .ok (.iconst 2, 1) := by decide +kernel
theorem dL_law_477 : decode cL_law 477 = .ok (.iadd, 1) := by decide +kernel
theorem dL_law_478 : decode cL_law 478 = .ok (.iaload, 1) := by decide +kernel
theorem dL_law_479 : decode cL_law 479 = .ok (.invokevirtual 57, 3) := by decide +kernel
theorem dL_law_482 : decode cL_law 482 = .ok (.aload_n 2, 1) := by decide +kernel
theorem dL_law_483 : decode cL_law 483 = .ok (.aload_n 0, 1) := by decide +kernel
theorem dL_law_484 : decode cL_law 484 = .ok (.iload_n 3, 1) := by decide +kernel
theorem dL_law_485 : decode cL_law 485 = .ok (.iconst 1, 1) := by decide +kernel
theorem dL_law_486 : decode cL_law 486 = .ok (.iadd, 1) := by decide +kernel
theorem dL_law_487 : decode cL_law 487 = .ok (.iaload, 1) := by decide +kernel
theorem dL_law_488 : decode cL_law 488 = .ok (.aload_n 0, 1) := by decide +kernel
theorem dL_law_489 : decode cL_law 489 = .ok (.iload_n 3, 1) := by decide +kernel
theorem dL_law_490 : decode cL_law 490 = .ok (.iconst 2, 1) := by decide +kernel
theorem dL_law_491 : decode cL_law 491 = .ok (.iadd, 1) := by decide +kernel
theorem dL_law_492 : decode cL_law 492 = .ok (.iaload, 1) := by decide +kernel
theorem dL_law_493 : decode cL_law 493 = .ok (.invokevirtual 60, 3) := by decide +kernel
theorem dL_law_496 : decode cL_law 496 = .ok (.if_icmp .eq 542, 3) := by decide +kernel
theorem dL_law_499 : decode cL_law 499 = .ok (.iconst 0, 1) := by decide +kernel
theorem dL_law_500 : decode cL_law 500 = .ok (.ireturn, 1) := by decide +kernel
theorem dL_law_501 : decode cL_law 501 = .ok (.aload_n 1, 1) := by decide +kernel
theorem dL_law_502 : decode cL_law 502 = .ok (.aload_n 0, 1) := by decide +kernel
theorem dL_law_503 : decode cL_law 503 = .ok (.iload_n 3, 1) := by decide +kernel
theorem dL_law_504 : decode cL_law 504 = .ok (.iconst 1, 1) := by decide +kernel
theorem dL_law_505 : decode cL_law 505 = .ok (.iadd, 1) := by decide +kernel
theorem dL_law_506 : decode cL_law 506 = .ok (.iaload, 1) := by decide +kernel
theorem dL_law_507 : decode cL_law 507 = .ok (.invokevirtual 61, 3) := by decide +kernel
theorem dL_law_510 : decode cL_law 510 = .ok (.aload_n 2, 1) := by decide +kernel
theorem dL_law_511 : decode cL_law 511 = .ok (.aload_n 0, 1) := by decide +kernel
theorem dL_law_512 : decode cL_law 512 = .ok (.iload_n 3, 1) := by decide +kernel
theorem dL_law_513 : decode cL_law 513 = .ok (.iconst 1, 1) := by decide +kernel
theorem dL_law_514 : decode cL_law 514 = .ok (.iadd, 1) := by decide +kernel
theorem dL_law_515 : decode cL_law 515 = .ok (.iaload, 1) := by decide +kernel
theorem dL_law_516 : decode cL_law 516 = .ok (.invokevirtual 64, 3) := by decide +kernel
theorem dL_law_519 : decode cL_law 519 = .ok (.if_icmp .eq 519, 3) := by decide +kernel
theorem dL_law_522 : decode cL_law 522 = .ok (.iconst 0, 1) := by decide +kernel
theorem dL_law_523 : decode cL_law 523 = .ok (.ireturn, 1) := by decide +kernel
theorem dL_law_524 : decode cL_law 524 = .ok (.aload_n 1, 1) := by decide +kernel
theorem dL_law_525 : decode cL_law 525 = .ok (.aload_n 0, 1) := by decide +kernel
theorem dL_law_526 : decode cL_law 526 = .ok (.iload_n 3, 1) := by decide +kernel
theorem dL_law_527 : decode cL_law 527 = .ok (.iconst 1, 1) := by decide +kernel
theorem dL_law_528 : decode cL_law 528 = .ok (.iadd, 1) := by decide +kernel
theorem dL_law_529 : decode cL_law 529 = .ok (.iaload, 1) := by decide +kernel
theorem dL_law_530 : decode cL_law 530 = .ok (.aload_n 0, 1) := by decide +kernel
theorem dL_law_531 : decode cL_law 531 = .ok (.iload_n 3, 1) := by decide +kernel
theorem dL_law_532 : decode cL_law 532 = .ok (.iconst 2, 1) := by decide +kernel
theorem dL_law_533 : decode cL_law 533 = .ok (.iadd, 1) := by decide +kernel
theorem dL_law_534 : decode cL_law 534 = .ok (.iaload, 1) := by decide +kernel
theorem dL_law_535 : decode cL_law 535 = .ok (.aload_n 0, 1) := by decide +kernel
theorem dL_law_536 : decode cL_law 536 = .ok (.iload_n 3, 1) := by decide +kernel
theorem dL_law_537 : decode cL_law 537 = .ok (.iconst 3, 1) := by decide +kernel
theorem dL_law_538 : decode cL_law 538 = .ok (.iadd, 1) := by decide +kernel
theorem dL_law_539 : decode cL_law 539 = .ok (.iaload, 1) := by decide +kernel
theorem dL_law_540 : decode cL_law 540 = .ok (.invokevirtual 65, 3) := by decide +kernel
theorem dL_law_543 : decode cL_law 543 = .ok (.aload_n 2, 1) := by decide +kernel
theorem dL_law_544 : decode cL_law 544 = .ok (.aload_n 0, 1) := by decide +kernel
theorem dL_law_545 : decode cL_law 545 = .ok (.iload_n 3, 1) := by decide +kernel
theorem dL_law_546 : decode cL_law 546 = .ok (.iconst 1, 1) := by decide +kernel
theorem dL_law_547 : decode cL_law 547 = .ok (.iadd, 1) := by decide +kernel
theorem dL_law_548 : decode cL_law 548 = .ok (.iaload, 1) := by decide +kernel
theorem dL_law_549 : decode cL_law 549 = .ok (.aload_n 0, 1) := by decide +kernel
theorem dL_law_550 : decode cL_law 550 = .ok (.iload_n 3, 1) := by decide +kernel
theorem dL_law_551 : decode cL_law 551 = .ok (.iconst 2, 1) := by decide +kernel
theorem dL_law_552 : decode cL_law 552 = .ok (.iadd, 1) := by decide +kernel
theorem dL_law_553 : decode cL_law 553 = .ok (.iaload, 1) := by decide +kernel
theorem dL_law_554 : decode cL_law 554 = .ok (.aload_n 0, 1) := by decide +kernel
theorem dL_law_555 : decode cL_law 555 = .ok (.iload_n 3, 1) := by decide +kernel
theorem dL_law_556 : decode cL_law 556 = .ok (.iconst 3, 1) := by decide +kernel
theorem dL_law_557 : decode cL_law 557 = .ok (.iadd, 1) := by decide +kernel
theorem dL_law_558 : decode cL_law 558 = .ok (.iaload, 1) := by decide +kernel
theorem dL_law_559 : decode cL_law 559 = .ok (.invokevirtual 68, 3) := by decide +kernel
theorem dL_law_562 : decode cL_law 562 = .ok (.if_icmp .eq 476, 3) := by decide +kernel
theorem dL_law_565 : decode cL_law 565 = .ok (.iconst 0, 1) := by decide +kernel
theorem dL_law_566 : decode cL_law 566 = .ok (.ireturn, 1) := by decide +kernel
theorem dL_law_567 : decode cL_law 567 = .ok (.aload_n 1, 1) := by decide +kernel
theorem dL_law_568 : decode cL_law 568 = .ok (.aload_n 0, 1) := by decide +kernel
theorem dL_law_569 : decode cL_law 569 = .ok (.iload_n 3, 1) := by decide +kernel
theorem dL_law_570 : decode cL_law 570 = .ok (.iconst 1, 1) := by decide +kernel
theorem dL_law_571 : decode cL_law 571 = .ok (.iadd, 1) := by decide +kernel
theorem dL_law_572 : decode cL_law 572 = .ok (.iaload, 1) := by decide +kernel
theorem dL_law_573 : decode cL_law 573 = .ok (.aload_n 0, 1) := by decide +kernel
theorem dL_law_574 : decode cL_law 574 = .ok (.iload_n 3, 1) := by decide +kernel
theorem dL_law_575 : decode cL_law 575 = .ok (.iconst 2, 1) := by decide +kernel
theorem dL_law_576 : decode cL_law 576 = .ok (.iadd, 1) := by decide +kernel
theorem dL_law_577 : decode cL_law 577 = .ok (.iaload, 1) := by decide +kernel
theorem dL_law_578 : decode cL_law 578 = .ok (.aload_n 0, 1) := by decide +kernel
theorem dL_law_579 : decode cL_law 579 = .ok (.iload_n 3, 1) := by decide +kernel
theorem dL_law_580 : decode cL_law 580 = .ok (.iconst 3, 1) := by decide +kernel
theorem dL_law_581 : decode cL_law 581 = .ok (.iadd, 1) := by decide +kernel
theorem dL_law_582 : decode cL_law 582 = .ok (.iaload, 1) := by decide +kernel
theorem dL_law_583 : decode cL_law 583 = .ok (.invokevirtual 69, 3) := by decide +kernel
theorem dL_law_586 : decode cL_law 586 = .ok (.aload_n 2, 1) := by decide +kernel
theorem dL_law_587 : decode cL_law 587 = .ok (.aload_n 0, 1) := by decide +kernel
theorem dL_law_588 : decode cL_law 588 = .ok (.iload_n 3, 1) := by decide +kernel
theorem dL_law_589 : decode cL_law 589 = .ok (.iconst 1, 1) := by decide +kernel
theorem dL_law_590 : decode cL_law 590 = .ok (.iadd, 1) := by decide +kernel
theorem dL_law_591 : decode cL_law 591 = .ok (.iaload, 1) := by decide +kernel
theorem dL_law_592 : decode cL_law 592 = .ok (.aload_n 0, 1) := by decide +kernel
theorem dL_law_593 : decode cL_law 593 = .ok (.iload_n 3, 1) := by decide +kernel
theorem dL_law_594 : decode cL_law 594 = .ok (.iconst 2, 1) := by decide +kernel
theorem dL_law_595 : decode cL_law 595 = .ok (.iadd, 1) := by decide +kernel
theorem dL_law_596 : decode cL_law 596 = .ok (.iaload, 1) := by decide +kernel
theorem dL_law_597 : decode cL_law 597 = .ok (.aload_n 0, 1) := by decide +kernel
theorem dL_law_598 : decode cL_law 598 = .ok (.iload_n 3, 1) := by decide +kernel
theorem dL_law_599 : decode cL_law 599 = .ok (.iconst 3, 1) := by decide +kernel
theorem dL_law_600 : decode cL_law 600 = .ok (.iadd, 1) := by decide +kernel
theorem dL_law_601 : decode cL_law 601 = .ok (.iaload, 1) := by decide +kernel
theorem dL_law_602 : decode cL_law 602 = .ok (.invokevirtual 72, 3) := by decide +kernel
theorem dL_law_605 : decode cL_law 605 = .ok (.if_icmp .eq 433, 3) := by decide +kernel
theorem dL_law_608 : decode cL_law 608 = .ok (.iconst 0, 1) := by decide +kernel
theorem dL_law_609 : decode cL_law 609 = .ok (.ireturn, 1) := by decide +kernel
theorem dL_law_610 : decode cL_law 610 = .ok (.aload_n 1, 1) := by decide +kernel
theorem dL_law_611 : decode cL_law 611 = .ok (.aload_n 0, 1) := by decide +kernel
theorem dL_law_612 : decode cL_law 612 = .ok (.iload_n 3, 1) := by decide +kernel
theorem dL_law_613 : decode cL_law 613 = .ok (.iconst 1, 1) := by decide +kernel
theorem dL_law_614 : decode cL_law 614 = .ok (.iadd, 1) := by decide +kernel
theorem dL_law_615 : decode cL_law 615 = .ok (.iaload, 1) := by decide +kernel
theorem dL_law_616 : decode cL_law 616 = .ok (.aload_n 0, 1) := by decide +kernel
theorem dL_law_617 : decode cL_law 617 = .ok (.iload_n 3, 1) := by decide +kernel
theorem dL_law_618 : decode cL_law 618 = .ok (.iconst 2, 1) := by decide +kernel
theorem dL_law_619 : decode cL_law 619 = .ok (.iadd, 1) := by decide +kernel
theorem dL_law_620 : decode cL_law 620 = .ok (.iaload, 1) := by decide +kernel
theorem dL_law_621 : decode cL_law 621 = .ok (.aload_n 0, 1) := by decide +kernel
theorem dL_law_622 : decode cL_law 622 = .ok (.iload_n 3, 1) := by decide +kernel
theorem dL_law_623 : decode cL_law 623 = .ok (.iconst 3, 1) := by decide +kernel
theorem dL_law_624 : decode cL_law 624 = .ok (.iadd, 1) := by decide +kernel
theorem dL_law_625 : decode cL_law 625 = .ok (.iaload, 1) := by decide +kernel
theorem dL_law_626 : decode cL_law 626 = .ok (.aload_n 0, 1) := by decide +kernel
theorem dL_law_627 : decode cL_law 627 = .ok (.iload_n 3, 1) := by decide +kernel
theorem dL_law_628 : decode cL_law 628 = .ok (.iconst 4, 1) := by decide +kernel
theorem dL_law_629 : decode cL_law 629 = .ok (.iadd, 1) := by decide +kernel
theorem dL_law_630 : decode cL_law 630 = .ok (.iaload, 1) := by decide +kernel
theorem dL_law_631 : decode cL_law 631 = .ok (.invokevirtual 73, 3) := by decide +kernel
theorem dL_law_634 : decode cL_law 634 = .ok (.aload_n 2, 1) := by decide +kernel
theorem dL_law_635 : decode cL_law 635 = .ok (.aload_n 0, 1) := by decide +kernel
theorem dL_law_636 : decode cL_law 636 = .ok (.iload_n 3, 1) := by decide +kernel
theorem dL_law_637 : decode cL_law 637 = .ok (.iconst 1, 1) := by decide +kernel
theorem dL_law_638 : decode cL_law 638 = .ok (.iadd, 1) := by decide +kernel
theorem dL_law_639 : decode cL_law 639 = .ok (.iaload, 1) := by decide +kernel
theorem dL_law_640 : decode cL_law 640 = .ok (.aload_n 0, 1) := by decide +kernel
theorem dL_law_641 : decode cL_law 641 = .ok (.iload_n 3, 1) := by decide +kernel
theorem dL_law_642 : decode cL_law 642 = .ok (.iconst 2, 1) := by decide +kernel
theorem dL_law_643 : decode cL_law 643 = .ok (.iadd, 1) := by decide +kernel
theorem dL_law_644 : decode cL_law 644 = .ok (.iaload, 1) := by decide +kernel
theorem dL_law_645 : decode cL_law 645 = .ok (.aload_n 0, 1) := by decide +kernel
theorem dL_law_646 : decode cL_law 646 = .ok (.iload_n 3, 1) := by decide +kernel
theorem dL_law_647 : decode cL_law 647 = .ok (.iconst 3, 1) := by decide +kernel
theorem dL_law_648 : decode cL_law 648 = .ok (.iadd, 1) := by decide +kernel
theorem dL_law_649 : decode cL_law 649 = .ok (.iaload, 1) := by decide +kernel
theorem dL_law_650 : decode cL_law 650 = .ok (.aload_n 0, 1) := by decide +kernel
theorem dL_law_651 : decode cL_law 651 = .ok (.iload_n 3, 1) := by decide +kernel
theorem dL_law_652 : decode cL_law 652 = .ok (.iconst 4, 1) := by decide +kernel
theorem dL_law_653 : decode cL_law 653 = .ok (.iadd, 1) := by decide +kernel
theorem dL_law_654 : decode cL_law 654 = .ok (.iaload, 1) := by decide +kernel
theorem dL_law_655 : decode cL_law 655 = .ok (.invokevirtual 77, 3) := by decide +kernel
theorem dL_law_658 : decode cL_law 658 = .ok (.if_icmp .eq 380, 3) := by decide +kernel
theorem dL_law_661 : decode cL_law 661 = .ok (.iconst 0, 1) := by decide +kernel
theorem dL_law_662 : decode cL_law 662 = .ok (.ireturn, 1) := by decide +kernel
theorem dL_law_663 : decode cL_law 663 = .ok (.aload_n 1, 1) := by decide +kernel
theorem dL_law_664 : decode cL_law 664 = .ok (.aload_n 0, 1) := by decide +kernel
theorem dL_law_665 : decode cL_law 665 = .ok (.iload_n 3, 1) := by decide +kernel
theorem dL_law_666 : decode cL_law 666 = .ok (.iconst 1, 1) := by decide +kernel
theorem dL_law_667 : decode cL_law 667 = .ok (.iadd, 1) := by decide +kernel
theorem dL_law_668 : decode cL_law 668 = .ok (.iaload, 1) := by decide +kernel
theorem dL_law_669 : decode cL_law 669 = .ok (.invokevirtual 78, 3) := by decide +kernel
theorem dL_law_672 : decode cL_law 672 = .ok (.aload_n 2, 1) := by decide +kernel
theorem dL_law_673 : decode cL_law 673 = .ok (.aload_n 0, 1) := by decide +kernel
theorem dL_law_674 : decode cL_law 674 = .ok (.iload_n 3, 1) := by decide +kernel
theorem dL_law_675 : decode cL_law 675 = .ok (.iconst 1, 1) := by decide +kernel
theorem dL_law_676 : decode cL_law 676 = .ok (.iadd, 1) := by decide +kernel
theorem dL_law_677 : decode cL_law 677 = .ok (.iaload, 1) := by decide +kernel
theorem dL_law_678 : decode cL_law 678 = .ok (.invokevirtual 81, 3) := by decide +kernel
theorem dL_law_681 : decode cL_law 681 = .ok (.if_icmp .eq 357, 3) := by decide +kernel
theorem dL_law_684 : decode cL_law 684 = .ok (.iconst 0, 1) := by decide +kernel
theorem dL_law_685 : decode cL_law 685 = .ok (.ireturn, 1) := by decide +kernel
theorem dL_law_686 : decode cL_law 686 = .ok (.aload_n 1, 1) := by decide +kernel
theorem dL_law_687 : decode cL_law 687 = .ok (.invokevirtual 82, 3) := by decide +kernel
theorem dL_law_690 : decode cL_law 690 = .ok (.aload_n 2, 1) := by decide +kernel
theorem dL_law_691 : decode cL_law 691 = .ok (.invokevirtual 85, 3) := by decide +kernel
theorem dL_law_694 : decode cL_law 694 = .ok (.if_icmp .eq 344, 3) := by decide +kernel
theorem dL_law_697 : decode cL_law 697 = .ok (.iconst 0, 1) := by decide +kernel
theorem dL_law_698 : decode cL_law 698 = .ok (.ireturn, 1) := by decide +kernel
theorem dL_law_699 : decode cL_law 699 = .ok (.aload_n 1, 1) := by decide +kernel
theorem dL_law_700 : decode cL_law 700 = .ok (.aload_n 0, 1) := by decide +kernel
theorem dL_law_701 : decode cL_law 701 = .ok (.iload_n 3, 1) := by decide +kernel
theorem dL_law_702 : decode cL_law 702 = .ok (.iconst 1, 1) := by decide +kernel
theorem dL_law_703 : decode cL_law 703 = .ok (.iadd, 1) := by decide +kernel
theorem dL_law_704 : decode cL_law 704 = .ok (.iaload, 1) := by decide +kernel
theorem dL_law_705 : decode cL_law 705 = .ok (.aload_n 0, 1) := by decide +kernel
theorem dL_law_706 : decode cL_law 706 = .ok (.iload_n 3, 1) := by decide +kernel
theorem dL_law_707 : decode cL_law 707 = .ok (.iconst 2, 1) := by decide +kernel
theorem dL_law_708 : decode cL_law 708 = .ok (.iadd, 1) := by decide +kernel
theorem dL_law_709 : decode cL_law 709 = .ok (.iaload, 1) := by decide +kernel
theorem dL_law_710 : decode cL_law 710 = .ok (.aload_n 0, 1) := by decide +kernel
theorem dL_law_711 : decode cL_law 711 = .ok (.iload_n 3, 1) := by decide +kernel
theorem dL_law_712 : decode cL_law 712 = .ok (.iconst 3, 1) := by decide +kernel
theorem dL_law_713 : decode cL_law 713 = .ok (.iadd, 1) := by decide +kernel
theorem dL_law_714 : decode cL_law 714 = .ok (.iaload, 1) := by decide +kernel
theorem dL_law_715 : decode cL_law 715 = .ok (.invokevirtual 86, 3) := by decide +kernel
theorem dL_law_718 : decode cL_law 718 = .ok (.aload_n 2, 1) := by decide +kernel
theorem dL_law_719 : decode cL_law 719 = .ok (.aload_n 0, 1) := by decide +kernel
theorem dL_law_720 : decode cL_law 720 = .ok (.iload_n 3, 1) := by decide +kernel
theorem dL_law_721 : decode cL_law 721 = .ok (.iconst 1, 1) := by decide +kernel
theorem dL_law_722 : decode cL_law 722 = .ok (.iadd, 1) := by decide +kernel
theorem dL_law_723 : decode cL_law 723 = .ok (.iaload, 1) := by decide +kernel
theorem dL_law_724 : decode cL_law 724 = .ok (.aload_n 0, 1) := by decide +kernel
theorem dL_law_725 : decode cL_law 725 = .ok (.iload_n 3, 1) := by decide +kernel
theorem dL_law_726 : decode cL_law 726 = .ok (.iconst 2, 1) := by decide +kernel
theorem dL_law_727 : decode cL_law 727 = .ok (.iadd, 1) := by decide +kernel
theorem dL_law_728 : decode cL_law 728 = .ok (.iaload, 1) := by decide +kernel
theorem dL_law_729 : decode cL_law 729 = .ok (.aload_n 0, 1) := by decide +kernel
theorem dL_law_730 : decode cL_law 730 = .ok (.iload_n 3, 1) := by decide +kernel
theorem dL_law_731 : decode cL_law 731 = .ok (.iconst 3, 1) := by decide +kernel
theorem dL_law_732 : decode cL_law 732 = .ok (.iadd, 1) := by decide +kernel
theorem dL_law_733 : decode cL_law 733 = .ok (.iaload, 1) := by decide +kernel
theorem dL_law_734 : decode cL_law 734 = .ok (.invokevirtual 89, 3) := by decide +kernel
theorem dL_law_737 : decode cL_law 737 = .ok (.if_icmp .eq 301, 3) := by decide +kernel
theorem dL_law_740 : decode cL_law 740 = .ok (.iconst 0, 1) := by decide +kernel
theorem dL_law_741 : decode cL_law 741 = .ok (.ireturn, 1) := by decide +kernel
theorem dL_law_742 : decode cL_law 742 = .ok (.aload_n 1, 1) := by decide +kernel
theorem dL_law_743 : decode cL_law 743 = .ok (.aload_n 0, 1) := by decide +kernel
theorem dL_law_744 : decode cL_law 744 = .ok (.iload_n 3, 1) := by decide +kernel
theorem dL_law_745 : decode cL_law 745 = .ok (.iconst 1, 1) := by decide +kernel
theorem dL_law_746 : decode cL_law 746 = .ok (.iadd, 1) := by decide +kernel
theorem dL_law_747 : decode cL_law 747 = .ok (.iaload, 1) := by decide +kernel
theorem dL_law_748 : decode cL_law 748 = .ok (.aload_n 0, 1) := by decide +kernel
theorem dL_law_749 : decode cL_law 749 = .ok (.iload_n 3, 1) := by decide +kernel
theorem dL_law_750 : decode cL_law 750 = .ok (.iconst 2, 1) := by decide +kernel
theorem dL_law_751 : decode cL_law 751 = .ok (.iadd, 1) := by decide +kernel
theorem dL_law_752 : decode cL_law 752 = .ok (.iaload, 1) := by decide +kernel
theorem dL_law_753 : decode cL_law 753 = .ok (.invokevirtual 90, 3) := by decide +kernel
theorem dL_law_756 : decode cL_law 756 = .ok (.aload_n 2, 1) := by decide +kernel
theorem dL_law_757 : decode cL_law 757 = .ok (.aload_n 0, 1) := by decide +kernel
theorem dL_law_758 : decode cL_law 758 = .ok (.iload_n 3, 1) := by decide +kernel
theorem dL_law_759 : decode cL_law 759 = .ok (.iconst 1, 1) := by decide +kernel
theorem dL_law_760 : decode cL_law 760 = .ok (.iadd, 1) := by decide +kernel
theorem dL_law_761 : decode cL_law 761 = .ok (.iaload, 1) := by decide +kernel
theorem dL_law_762 : decode cL_law 762 = .ok (.aload_n 0, 1) := by decide +kernel
theorem dL_law_763 : decode cL_law 763 = .ok (.iload_n 3, 1) := by decide +kernel
theorem dL_law_764 : decode cL_law 764 = .ok (.iconst 2, 1) := by decide +kernel
theorem dL_law_765 : decode cL_law 765 = .ok (.iadd, 1) := by decide +kernel
theorem dL_law_766 : decode cL_law 766 = .ok (.iaload, 1) := by decide +kernel
theorem dL_law_767 : decode cL_law 767 = .ok (.invokevirtual 93, 3) := by decide +kernel
theorem dL_law_770 : decode cL_law 770 = .ok (.if_icmp .eq 268, 3) := by decide +kernel
theorem dL_law_773 : decode cL_law 773 = .ok (.iconst 0, 1) := by decide +kernel
theorem dL_law_774 : decode cL_law 774 = .ok (.ireturn, 1) := by decide +kernel
theorem dL_law_775 : decode cL_law 775 = .ok (.aload_n 1, 1) := by decide +kernel
theorem dL_law_776 : decode cL_law 776 = .ok (.aload_n 0, 1) := by decide +kernel
theorem dL_law_777 : decode cL_law 777 = .ok (.iload_n 3, 1) := by decide +kernel
theorem dL_law_778 : decode cL_law 778 = .ok (.iconst 1, 1) := by decide +kernel
theorem dL_law_779 : decode cL_law 779 = .ok (.iadd, 1) := by decide +kernel
theorem dL_law_780 : decode cL_law 780 = .ok (.iaload, 1) := by decide +kernel
theorem dL_law_781 : decode cL_law 781 = .ok (.aload_n 0, 1) := by decide +kernel
theorem dL_law_782 : decode cL_law 782 = .ok (.iload_n 3, 1) := by decide +kernel
theorem dL_law_783 : decode cL_law 783 = .ok (.iconst 2, 1) := by decide +kernel
theorem dL_law_784 : decode cL_law 784 = .ok (.iadd, 1) := by decide +kernel
theorem dL_law_785 : decode cL_law 785 = .ok (.iaload, 1) := by decide +kernel
theorem dL_law_786 : decode cL_law 786 = .ok (.invokevirtual 94, 3) := by decide +kernel
theorem dL_law_789 : decode cL_law 789 = .ok (.aload_n 2, 1) := by decide +kernel
theorem dL_law_790 : decode cL_law 790 = .ok (.aload_n 0, 1) := by decide +kernel
theorem dL_law_791 : decode cL_law 791 = .ok (.iload_n 3, 1) := by decide +kernel
theorem dL_law_792 : decode cL_law 792 = .ok (.iconst 1, 1) := by decide +kernel
theorem dL_law_793 : decode cL_law 793 = .ok (.iadd, 1) := by decide +kernel
theorem dL_law_794 : decode cL_law 794 = .ok (.iaload, 1) := by decide +kernel
theorem dL_law_795 : decode cL_law 795 = .ok (.aload_n 0, 1) := by decide +kernel
theorem dL_law_796 : decode cL_law 796 = .ok (.iload_n 3, 1) := by decide +kernel
theorem dL_law_797 : decode cL_law 797 = .ok (.iconst 2, 1) := by decide +kernel
theorem dL_law_798 : decode cL_law 798 = .ok (.iadd, 1) := by decide +kernel
theorem dL_law_799 : decode cL_law 799 = .ok (.iaload, 1) := by decide +kernel
theorem dL_law_800 : decode cL_law 800 = .ok (.invokevirtual 97, 3) := by decide +kernel
theorem dL_law_803 : decode cL_law 803 = .ok (.if_icmp .eq 235, 3) := by decide +kernel
theorem dL_law_806 : decode cL_law 806 = .ok (.iconst 0, 1) := by decide +kernel
theorem dL_law_807 : decode cL_law 807 = .ok (.ireturn, 1) := by decide +kernel
theorem dL_law_808 : decode cL_law 808 = .ok (.aload_n 1, 1) := by decide +kernel
theorem dL_law_809 : decode cL_law 809 = .ok (.aload_n 0, 1) := by decide +kernel
theorem dL_law_810 : decode cL_law 810 = .ok (.iload_n 3, 1) := by decide +kernel
theorem dL_law_811 : decode cL_law 811 = .ok (.iconst 1, 1) := by decide +kernel
theorem dL_law_812 : decode cL_law 812 = .ok (.iadd, 1) := by decide +kernel
theorem dL_law_813 : decode cL_law 813 = .ok (.iaload, 1) := by decide +kernel
theorem dL_law_814 : decode cL_law 814 = .ok (.aload_n 0, 1) := by decide +kernel
theorem dL_law_815 : decode cL_law 815 = .ok (.iload_n 3, 1) := by decide +kernel
theorem dL_law_816 : decode cL_law 816 = .ok (.iconst 2, 1) := by decide +kernel
theorem dL_law_817 : decode cL_law 817 = .ok (.iadd, 1) := by decide +kernel
theorem dL_law_818 : decode cL_law 818 = .ok (.iaload, 1) := by decide +kernel
theorem dL_law_819 : decode cL_law 819 = .ok (.invokevirtual 98, 3) := by decide +kernel
theorem dL_law_822 : decode cL_law 822 = .ok (.aload_n 2, 1) := by decide +kernel
theorem dL_law_823 : decode cL_law 823 = .ok (.aload_n 0, 1) := by decide +kernel
theorem dL_law_824 : decode cL_law 824 = .ok (.iload_n 3, 1) := by decide +kernel
theorem dL_law_825 : decode cL_law 825 = .ok (.iconst 1, 1) := by decide +kernel
theorem dL_law_826 : decode cL_law 826 = .ok (.iadd, 1) := by decide +kernel
theorem dL_law_827 : decode cL_law 827 = .ok (.iaload, 1) := by decide +kernel
theorem dL_law_828 : decode cL_law 828 = .ok (.aload_n 0, 1) := by decide +kernel
theorem dL_law_829 : decode cL_law 829 = .ok (.iload_n 3, 1) := by decide +kernel
theorem dL_law_830 : decode cL_law 830 = .ok (.iconst 2, 1) := by decide +kernel
theorem dL_law_831 : decode cL_law 831 = .ok (.iadd, 1) := by decide +kernel
theorem dL_law_832 : decode cL_law 832 = .ok (.iaload, 1) := by decide +kernel
theorem dL_law_833 : decode cL_law 833 = .ok (.invokevirtual 101, 3) := by decide +kernel
theorem dL_law_836 : decode cL_law 836 = .ok (.if_icmp .eq 202, 3) := by decide +kernel
theorem dL_law_839 : decode cL_law 839 = .ok (.iconst 0, 1) := by decide +kernel
theorem dL_law_840 : decode cL_law 840 = .ok (.ireturn, 1) := by decide +kernel
theorem dL_law_841 : decode cL_law 841 = .ok (.aload_n 1, 1) := by decide +kernel
theorem dL_law_842 : decode cL_law 842 = .ok (.aload_n 0, 1) := by decide +kernel
theorem dL_law_843 : decode cL_law 843 = .ok (.iload_n 3, 1) := by decide +kernel
theorem dL_law_844 : decode cL_law 844 = .ok (.iconst 1, 1) := by decide +kernel
theorem dL_law_845 : decode cL_law 845 = .ok (.iadd, 1) := by decide +kernel
theorem dL_law_846 : decode cL_law 846 = .ok (.iaload, 1) := by decide +kernel
theorem dL_law_847 : decode cL_law 847 = .ok (.aload_n 0, 1) := by decide +kernel
theorem dL_law_848 : decode cL_law 848 = .ok (.iload_n 3, 1) := by decide +kernel
theorem dL_law_849 : decode cL_law 849 = .ok (.iconst 2, 1) := by decide +kernel
theorem dL_law_850 : decode cL_law 850 = .ok (.iadd, 1) := by decide +kernel
theorem dL_law_851 : decode cL_law 851 = .ok (.iaload, 1) := by decide +kernel
theorem dL_law_852 : decode cL_law 852 = .ok (.invokevirtual 102, 3) := by decide +kernel
theorem dL_law_855 : decode cL_law 855 = .ok (.aload_n 2, 1) := by decide +kernel
theorem dL_law_856 : decode cL_law 856 = .ok (.aload_n 0, 1) := by decide +kernel
theorem dL_law_857 : decode cL_law 857 = .ok (.iload_n 3, 1) := by decide +kernel
theorem dL_law_858 : decode cL_law 858 = .ok (.iconst 1, 1) := by decide +kernel
theorem dL_law_859 : decode cL_law 859 = .ok (.iadd, 1) := by decide +kernel
theorem dL_law_860 : decode cL_law 860 = .ok (.iaload, 1) := by decide +kernel
theorem dL_law_861 : decode cL_law 861 = .ok (.aload_n 0, 1) := by decide +kernel
theorem dL_law_862 : decode cL_law 862 = .ok (.iload_n 3, 1) := by decide +kernel
theorem dL_law_863 : decode cL_law 863 = .ok (.iconst 2, 1) := by decide +kernel
theorem dL_law_864 : decode cL_law 864 = .ok (.iadd, 1) := by decide +kernel
theorem dL_law_865 : decode cL_law 865 = .ok (.iaload, 1) := by decide +kernel
theorem dL_law_866 : decode cL_law 866 = .ok (.invokevirtual 105, 3) := by decide +kernel
theorem dL_law_869 : decode cL_law 869 = .ok (.if_icmp .eq 169, 3) := by decide +kernel
theorem dL_law_872 : decode cL_law 872 = .ok (.iconst 0, 1) := by decide +kernel
theorem dL_law_873 : decode cL_law 873 = .ok (.ireturn, 1) := by decide +kernel
theorem dL_law_874 : decode cL_law 874 = .ok (.aload_n 1, 1) := by decide +kernel
theorem dL_law_875 : decode cL_law 875 = .ok (.invokevirtual 106, 3) := by decide +kernel
theorem dL_law_878 : decode cL_law 878 = .ok (.aload_n 2, 1) := by decide +kernel
theorem dL_law_879 : decode cL_law 879 = .ok (.invokevirtual 109, 3) := by decide +kernel
theorem dL_law_882 : decode cL_law 882 = .ok (.if_icmp .eq 156, 3) := by decide +kernel
theorem dL_law_885 : decode cL_law 885 = .ok (.iconst 0, 1) := by decide +kernel
theorem dL_law_886 : decode cL_law 886 = .ok (.ireturn, 1) := by decide +kernel
theorem dL_law_887 : decode cL_law 887 = .ok (.aload_n 1, 1) := by decide +kernel
theorem dL_law_888 : decode cL_law 888 = .ok (.invokevirtual 110, 3) := by decide +kernel
theorem dL_law_891 : decode cL_law 891 = .ok (.aload_n 2, 1) := by decide +kernel
theorem dL_law_892 : decode cL_law 892 = .ok (.invokevirtual 113, 3) := by decide +kernel
theorem dL_law_895 : decode cL_law 895 = .ok (.if_icmp .eq 143, 3) := by decide +kernel
theorem dL_law_898 : decode cL_law 898 = .ok (.iconst 0, 1) := by decide +kernel
theorem dL_law_899 : decode cL_law 899 = .ok (.ireturn, 1) := by decide +kernel
theorem dL_law_900 : decode cL_law 900 = .ok (.aload_n 1, 1) := by decide +kernel
theorem dL_law_901 : decode cL_law 901 = .ok (.aload_n 0, 1) := by decide +kernel
theorem dL_law_902 : decode cL_law 902 = .ok (.iload_n 3, 1) := by decide +kernel
theorem dL_law_903 : decode cL_law 903 = .ok (.iconst 1, 1) := by decide +kernel
theorem dL_law_904 : decode cL_law 904 = .ok (.iadd, 1) := by decide +kernel
theorem dL_law_905 : decode cL_law 905 = .ok (.iaload, 1) := by decide +kernel
theorem dL_law_906 : decode cL_law 906 = .ok (.aload_n 0, 1) := by decide +kernel
theorem dL_law_907 : decode cL_law 907 = .ok (.iload_n 3, 1) := by decide +kernel
theorem dL_law_908 : decode cL_law 908 = .ok (.iconst 2, 1) := by decide +kernel
theorem dL_law_909 : decode cL_law 909 = .ok (.iadd, 1) := by decide +kernel
theorem dL_law_910 : decode cL_law 910 = .ok (.iaload, 1) := by decide +kernel
theorem dL_law_911 : decode cL_law 911 = .ok (.invokevirtual 114, 3) := by decide +kernel
theorem dL_law_914 : decode cL_law 914 = .ok (.aload_n 2, 1) := by decide +kernel
theorem dL_law_915 : decode cL_law 915 = .ok (.aload_n 0, 1) := by decide +kernel
theorem dL_law_916 : decode cL_law 916 = .ok (.iload_n 3, 1) := by decide +kernel
theorem dL_law_917 : decode cL_law 917 = .ok (.iconst 1, 1) := by decide +kernel
theorem dL_law_918 : decode cL_law 918 = .ok (.iadd, 1) := by decide +kernel
theorem dL_law_919 : decode cL_law 919 = .ok (.iaload, 1) := by decide +kernel
theorem dL_law_920 : decode cL_law 920 = .ok (.aload_n 0, 1) := by decide +kernel
theorem dL_law_921 : decode cL_law 921 = .ok (.iload_n 3, 1) := by decide +kernel
theorem dL_law_922 : decode cL_law 922 = .ok (.iconst 2, 1) := by decide +kernel
theorem dL_law_923 : decode cL_law 923 = .ok (.iadd, 1) := by decide +kernel
theorem dL_law_924 : decode cL_law 924 = .ok (.iaload, 1) := by decide +kernel
theorem dL_law_925 : decode cL_law 925 = .ok (.invokevirtual 117, 3) := by decide +kernel
theorem dL_law_928 : decode cL_law 928 = .ok (.if_icmp .eq 110, 3) := by decide +kernel
theorem dL_law_931 : decode cL_law 931 = .ok (.iconst 0, 1) := by decide +kernel
theorem dL_law_932 : decode cL_law 932 = .ok (.ireturn, 1) := by decide +kernel
theorem dL_law_933 : decode cL_law 933 = .ok (.aload_n 1, 1) := by decide +kernel
theorem dL_law_934 : decode cL_law 934 = .ok (.aload_n 0, 1) := by decide +kernel
theorem dL_law_935 : decode cL_law 935 = .ok (.iload_n 3, 1) := by decide +kernel
theorem dL_law_936 : decode cL_law 936 = .ok (.iconst 1, 1) := by decide +kernel
theorem dL_law_937 : decode cL_law 937 = .ok (.iadd, 1) := by decide +kernel
theorem dL_law_938 : decode cL_law 938 = .ok (.iaload, 1) := by decide +kernel
theorem dL_law_939 : decode cL_law 939 = .ok (.aload_n 0, 1) := by decide +kernel
theorem dL_law_940 : decode cL_law 940 = .ok (.iload_n 3, 1) := by decide +kernel
theorem dL_law_941 : decode cL_law 941 = .ok (.iconst 2, 1) := by decide +kernel
theorem dL_law_942 : decode cL_law 942 = .ok (.iadd, 1) := by decide +kernel
theorem dL_law_943 : decode cL_law 943 = .ok (.iaload, 1) := by decide +kernel
theorem dL_law_944 : decode cL_law 944 = .ok (.invokevirtual 118, 3) := by decide +kernel
theorem dL_law_947 : decode cL_law 947 = .ok (.aload_n 2, 1) := by decide +kernel
theorem dL_law_948 : decode cL_law 948 = .ok (.aload_n 0, 1) := by decide +kernel
theorem dL_law_949 : decode cL_law 949 = .ok (.iload_n 3, 1) := by decide +kernel
theorem dL_law_950 : decode cL_law 950 = .ok (.iconst 1, 1) := by decide +kernel
theorem dL_law_951 : decode cL_law 951 = .ok (.iadd, 1) := by decide +kernel
theorem dL_law_952 : decode cL_law 952 = .ok (.iaload, 1) := by decide +kernel
theorem dL_law_953 : decode cL_law 953 = .ok (.aload_n 0, 1) := by decide +kernel
theorem dL_law_954 : decode cL_law 954 = .ok (.iload_n 3, 1) := by decide +kernel
theorem dL_law_955 : decode cL_law 955 = .ok (.iconst 2, 1) := by decide +kernel
theorem dL_law_956 : decode cL_law 956 = .ok (.iadd, 1) := by decide +kernel
theorem dL_law_957 : decode cL_law 957 = .ok (.iaload, 1) := by decide +kernel
theorem dL_law_958 : decode cL_law 958 = .ok (.invokevirtual 121, 3) := by decide +kernel
theorem dL_law_961 : decode cL_law 961 = .ok (.if_icmp .eq 77, 3) := by decide +kernel
theorem dL_law_964 : decode cL_law 964 = .ok (.iconst 0, 1) := by decide +kernel
theorem dL_law_965 : decode cL_law 965 = .ok (.ireturn, 1) := by decide +kernel
theorem dL_law_966 : decode cL_law 966 = .ok (.aload_n 1, 1) := by decide +kernel
theorem dL_law_967 : decode cL_law 967 = .ok (.aload_n 0, 1) := by decide +kernel
theorem dL_law_968 : decode cL_law 968 = .ok (.iload_n 3, 1) := by decide +kernel
theorem dL_law_969 : decode cL_law 969 = .ok (.iconst 1, 1) := by decide +kernel
theorem dL_law_970 : decode cL_law 970 = .ok (.iadd, 1) := by decide +kernel
theorem dL_law_971 : decode cL_law 971 = .ok (.iaload, 1) := by decide +kernel
theorem dL_law_972 : decode cL_law 972 = .ok (.aload_n 0, 1) := by decide +kernel
theorem dL_law_973 : decode cL_law 973 = .ok (.iload_n 3, 1) := by decide +kernel
theorem dL_law_974 : decode cL_law 974 = .ok (.iconst 2, 1) := by decide +kernel
theorem dL_law_975 : decode cL_law 975 = .ok (.iadd, 1) := by decide +kernel
theorem dL_law_976 : decode cL_law 976 = .ok (.iaload, 1) := by decide +kernel
theorem dL_law_977 : decode cL_law 977 = .ok (.invokevirtual 122, 3) := by decide +kernel
theorem dL_law_980 : decode cL_law 980 = .ok (.aload_n 2, 1) := by decide +kernel
theorem dL_law_981 : decode cL_law 981 = .ok (.aload_n 0, 1) := by decide +kernel
theorem dL_law_982 : decode cL_law 982 = .ok (.iload_n 3, 1) := by decide +kernel
theorem dL_law_983 : decode cL_law 983 = .ok (.iconst 1, 1) := by decide +kernel
theorem dL_law_984 : decode cL_law 984 = .ok (.iadd, 1) := by decide +kernel
theorem dL_law_985 : decode cL_law 985 = .ok (.iaload, 1) := by decide +kernel
theorem dL_law_986 : decode cL_law 986 = .ok (.aload_n 0, 1) := by decide +kernel
theorem dL_law_987 : decode cL_law 987 = .ok (.iload_n 3, 1) := by decide +kernel
theorem dL_law_988 : decode cL_law 988 = .ok (.iconst 2, 1) := by decide +kernel
theorem dL_law_989 : decode cL_law 989 = .ok (.iadd, 1) := by decide +kernel
theorem dL_law_990 : decode cL_law 990 = .ok (.iaload, 1) := by decide +kernel
theorem dL_law_991 : decode cL_law 991 = .ok (.invokevirtual 125, 3) := by decide +kernel
theorem dL_law_994 : decode cL_law 994 = .ok (.if_icmp .eq 44, 3) := by decide +kernel
theorem dL_law_997 : decode cL_law 997 = .ok (.iconst 0, 1) := by decide +kernel
theorem dL_law_998 : decode cL_law 998 = .ok (.ireturn, 1) := by decide +kernel
theorem dL_law_999 : decode cL_law 999 = .ok (.aload_n 1, 1) := by decide +kernel
theorem dL_law_1000 : decode cL_law 1000 = .ok (.invokevirtual 126, 3) := by decide +kernel
theorem dL_law_1003 : decode cL_law 1003 = .ok (.aload_n 2, 1) := by decide +kernel
theorem dL_law_1004 : decode cL_law 1004 = .ok (.invokevirtual 129, 3) := by decide +kernel
theorem dL_law_1007 : decode cL_law 1007 = .ok (.if_icmp .eq 31, 3) := by decide +kernel
theorem dL_law_1010 : decode cL_law 1010 = .ok (.iconst 0, 1) := by decide +kernel
theorem dL_law_1011 : decode cL_law 1011 = .ok (.ireturn, 1) := by decide +kernel
theorem dL_law_1012 : decode cL_law 1012 = .ok (.aload_n 1, 1) := by decide +kernel
theorem dL_law_1013 : decode cL_law 1013 = .ok (.invokevirtual 130, 3) := by decide +kernel
theorem dL_law_1016 : decode cL_law 1016 = .ok (.aload_n 2, 1) := by decide +kernel
theorem dL_law_1017 : decode cL_law 1017 = .ok (.invokevirtual 133, 3) := by decide +kernel
theorem dL_law_1020 : decode cL_law 1020 = .ok (.if_icmp .eq 18, 3) := by decide +kernel
theorem dL_law_1023 : decode cL_law 1023 = .ok (.iconst 0, 1) := by decide +kernel
theorem dL_law_1024 : decode cL_law 1024 = .ok (.ireturn, 1) := by decide +kernel
theorem dL_law_1025 : decode cL_law 1025 = .ok (.aload_n 1, 1) := by decide +kernel
theorem dL_law_1026 : decode cL_law 1026 = .ok (.invokevirtual 134, 3) := by decide +kernel
theorem dL_law_1029 : decode cL_law 1029 = .ok (.aload_n 2, 1) := by decide +kernel
theorem dL_law_1030 : decode cL_law 1030 = .ok (.invokevirtual 137, 3) := by decide +kernel
theorem dL_law_1033 : decode cL_law 1033 = .ok (.if_icmp .eq 5, 3) := by decide +kernel
theorem dL_law_1036 : decode cL_law 1036 = .ok (.iconst 0, 1) := by decide +kernel
theorem dL_law_1037 : decode cL_law 1037 = .ok (.ireturn, 1) := by decide +kernel
theorem dL_law_1038 : decode cL_law 1038 = .ok (.iinc 3 5, 3) := by decide +kernel
theorem dL_law_1041 : decode cL_law 1041 = .ok (.goto (-1023), 3) := by decide +kernel
theorem dL_law_1044 : decode cL_law 1044 = .ok (.iconst 1, 1) := by decide +kernel
theorem dL_law_1045 : decode cL_law 1045 = .ok (.ireturn, 1) := by decide +kernel
end
section
/-! ===== the tables' words that stay, and the nest mates' words ===== -/
def wG : List Cond := lw_tbl.filter goodWord
theorem wG_of {w : Cond} (i : Nat) (h : lw_tbl[i]? = some w) (hg : goodWord w = true) : w ∈ wG := List.mem_filter.mpr ⟨List.mem_of_getElem? h, hg⟩
theorem wG_good {ws : List Cond} (h : ∀ w ∈ ws, w ∈ wG) : GoodIn wG ws := fun w hw => ⟨h w hw, good_of_word (List.mem_filter.mp (h w hw)).2⟩
def av_isN : Cond → Bool
  | .fieldLinkNest .. => true
  | .methodLinkNest .. => true
  | _ => false
def wN : List Cond := lw_tbl.filter av_isN
theorem wN_of {w : Cond} (i : Nat) (h : lw_tbl[i]? = some w) (hg : av_isN w = true) : w ∈ wN := List.mem_filter.mpr ⟨List.mem_of_getElem? h, hg⟩
theorem av_N_warm {w : Cond} (hg : av_isN w = true) {s U : State} (hW : s.WarmedH U.vm) (h : va_Nw w s) : va_Nw w U := by
  cases w <;> first | exact va_Nw.warmF hW h | exact va_Nw.warmM hW h | cases hg
theorem av_N_same {w : Cond} (hg : av_isN w = true) {s U : State} (hv : s.vm = U.vm) (h : va_Nw w s) : va_Nw w U := by
  cases w <;> first | exact va_Nw.same rfl hv h | cases hg
/-! ===== the abstract store ===== -/
abbrev av_S : Type := Nat → Nat → Int32
abbrev av_H : Type := (Nat × List (Option Nat)) ⊕ ((Nat × Nat) ⊕ (Nat × Nat × (Nat → Nat)))
abbrev av_X : Type := va_G × (Nat → Nat) × (Nat → ClassId)
def av_st (k : Nat) : av_H := .inl (3, [none, none, none, none, some (k + 1), some (k + 2), some (k + 3), some (k + 4), some (k + 5), some (k + 6)])
def av_ia (n : Nat) : av_H := .inr (.inl (0, n))
def av_sh (k : Nat) : av_H :=
  if k < 63 then (if k % 7 = 0 then av_st k else if k % 7 = 1 then av_ia 6 else if k % 7 = 2 then av_ia 60 else av_ia 24)
  else if k = 63 then .inl (4, [some 0, some 64, some 66, some 68])
  else if k = 64 then .inl (0, [some 65, none, none])
  else if k = 65 then .inr (.inr (2, 8, fun i => 7 * i + 7))
  else if k = 66 then .inl (1, [some 67, none])
  else if k = 67 then .inr (.inl (1, 40))
  else if k = 68 then .inl (2, [some 69, some 76, none, none, none])
  else if k = 69 then .inr (.inr (3, 6, fun i => 70 + i))
  else if k < 76 then av_ia 60
  else if k = 76 then av_ia 6
  else if k = 77 then .inl (5, [some 78, some 79, none, some 80, none, none, some 81, some 82, some 83, some 84, some 85, none, none])
  else if k = 78 then av_ia 238
  else if k = 79 then av_ia 1904
  else if k = 80 then av_ia 40
  else if k = 81 then av_ia 360
  else av_ia 6
def av_f (X : av_X) (σ : av_S) (k i : Nat) (f : Option Nat) : Value := match f with
  | none => .int (σ k i)
  | some r => .ref (X.2.1 r)
def av_e (X : av_X) (σ : av_S) (k : Nat) : va_E := match av_sh k with
  | .inl (ci, fl) => .inr (ci, fl.mapIdx (av_f X σ k))
  | .inr (.inl (kd, n)) => .inl (X.2.2 kd, n, .inl (σ k))
  | .inr (.inr (kd, n, f)) => .inl (X.2.2 kd, n, .inr (.inr (.inr (.inr (fun i => some (X.2.1 (f i)))))))
def av_w (X : av_X) (σ : av_S) : va_W := (List.range 86).map (fun k => (X.2.1 k, av_e X σ k))
def av_set (σ : av_S) (k : Nat) (f : Nat → Int32) : av_S := fun a => if a = k then f else σ a
def av_t (X : av_X) (v : Value) : Value := match v with
  | .ref k => .ref (X.2.1 k)
  | v => v
def av_tys (X : av_X) : List (ClassId × FieldType) := [(X.2.2 0, .int), (X.2.2 1, .char), (X.2.2 2, .object RX4), (X.2.2 3, .array .int)]
theorem av_w_at {X : av_X} {σ : av_S} {k : Nat} (h : k < 86) : (av_w X σ)[k]? = some (X.2.1 k, av_e X σ k) := by
  simp [av_w, h]
theorem av_w_len {X : av_X} {σ : av_S} : (av_w X σ).length = 86 := by simp [av_w]
theorem av_e_ne {X : av_X} {σ : av_S} {k j : Nat} {f : Nat → Int32} (h : j ≠ k) : av_e X (av_set σ k f) j = av_e X σ j := by
  have e : av_set σ k f j = σ j := if_neg h
  unfold av_e
  rw [e]
  have e2 : av_f X (av_set σ k f) j = av_f X σ j := by
    funext i g
    cases g with
    | none => show Value.int (av_set σ k f j i) = _; rw [e]; rfl
    | some r => rfl
  rw [e2]
theorem av_w_set {X : av_X} {σ : av_S} {k : Nat} {f : Nat → Int32} (h : k < 86) : (av_w X σ).set k (X.2.1 k, av_e X (av_set σ k f) k) = av_w X (av_set σ k f) := by
  apply List.ext_getElem?
  intro i
  by_cases hi : i = k
  · subst hi
    rw [List.getElem?_set_self (by rw [av_w_len]; exact h), av_w_at h]
  · rw [List.getElem?_set_ne (Ne.symm hi)]
    by_cases hl : i < 86
    · rw [av_w_at hl, av_w_at hl, av_e_ne hi]
    · rw [List.getElem?_eq_none (by rw [av_w_len]; omega), List.getElem?_eq_none (by rw [av_w_len]; omega)]
theorem av_e_obj {X : av_X} {σ : av_S} {k ci : Nat} {fl : List (Option Nat)} (h : av_sh k = .inl (ci, fl)) : av_e X σ k = .inr (ci, fl.mapIdx (av_f X σ k)) := by
  unfold av_e; rw [h]
theorem av_e_arr {X : av_X} {σ : av_S} {k kd n : Nat} (h : av_sh k = .inr (.inl (kd, n))) : av_e X σ k = .inl (X.2.2 kd, n, .inl (σ k)) := by
  unfold av_e; rw [h]
theorem av_e_ref {X : av_X} {σ : av_S} {k kd n : Nat} {f : Nat → Nat} (h : av_sh k = .inr (.inr (kd, n, f))) : av_e X σ k = .inl (X.2.2 kd, n, .inr (.inr (.inr (.inr (fun i => some (X.2.1 (f i))))))) := by
  unfold av_e; rw [h]
theorem av_e_put {X : av_X} {σ : av_S} {k ci i : Nat} {fl : List (Option Nat)} {v : Int32} (h : av_sh k = .inl (ci, fl)) (hi : fl[i]? = some none) : av_e X (av_set σ k (upd (σ k) i v)) k = .inr (ci, (fl.mapIdx (av_f X σ k)).set i (.int v)) := by
  rw [av_e_obj h]
  congr 2
  apply List.ext_getElem?
  intro j
  have e : av_set σ k (upd (σ k) i v) k = upd (σ k) i v := if_pos rfl
  have hil : i < fl.length := (List.getElem?_eq_some_iff.mp hi).1
  by_cases hj : j = i
  · subst hj
    rw [List.getElem?_set_self (by simpa using hil), List.getElem?_mapIdx, hi]
    show some (Value.int (av_set σ k (upd (σ k) j v) k j)) = _
    rw [e]
    simp [upd]
  · rw [List.getElem?_set_ne (Ne.symm hj), List.getElem?_mapIdx, List.getElem?_mapIdx]
    cases hf : fl[j]? with
    | none => rfl
    | some g =>
      cases g with
      | none =>
        show some (Value.int (av_set σ k (upd (σ k) i v) k j)) = some (Value.int (σ k j))
        rw [e]
        simp [upd, hj]
      | some r => rfl
theorem av_e_aset {X : av_X} {σ : av_S} {k kd n : Nat} {g : Nat → Int32} (h : av_sh k = .inr (.inl (kd, n))) : av_e X (av_set σ k g) k = .inl (X.2.2 kd, n, .inl g) := by
  rw [av_e_arr h]
  have e : av_set σ k g k = g := if_pos rfl
  rw [e]
theorem av_D_any {X : av_X} {A : Nat → Prop} {σ σ' : av_S} (h : va_D A (av_w X σ)) : va_D A (av_w X σ') := by
  have key : ∀ (k : Nat) (q : Nat × va_E), (av_w X σ')[k]? = some q → ∃ q0, (av_w X σ)[k]? = some q0 ∧ q0.1 = q.1 := by
    intro k q hk
    have hl : k < 86 := by
      have := (List.getElem?_eq_some_iff.mp hk).1
      rwa [av_w_len] at this
    rw [av_w_at hl] at hk
    cases hk
    exact ⟨_, av_w_at hl, rfl⟩
  refine ⟨fun i j x y hi hj hxy => ?_, fun k q hk => ?_⟩
  · obtain ⟨x0, h1, h2⟩ := key i x hi
    obtain ⟨y0, h3, h4⟩ := key j y hj
    exact h.1 i j x0 y0 h1 h3 (h2.trans (hxy.trans h4.symm))
  · obtain ⟨q0, h1, h2⟩ := key k q hk
    rw [← h2]
    exact h.2 k q0 h1
theorem av_A_any {X : av_X} {σ σ' : av_S} {sz q : Nat} (h : va_A (av_w X σ) sz q) : va_A (av_w X σ') sz q := by
  rcases h with ⟨k, e, hk⟩ | h
  · have hl : k < 86 := by
      have := (List.getElem?_eq_some_iff.mp hk).1
      rwa [av_w_len] at this
    rw [av_w_at hl] at hk
    have e1 : X.2.1 k = q := congrArg Prod.fst (Option.some.inj hk)
    exact Or.inl ⟨k, av_e X σ' k, by rw [av_w_at hl, e1]⟩
  · exact Or.inr h
theorem av_cat {X : av_X} (v : Value) : (av_t X v).category = v.category := by
  cases v <;> rfl
def av_l (X : av_X) (lv : List (Nat × Value)) : List (Nat × Value) := lv.map (fun q => (q.1, av_t X q.2))
theorem av_at {X : av_X} {ls : Array Slot} {nL : Nat} {lv : List (Nat × Value)} (h : lv_has ls nL (av_l X lv)) {k i : Nat} {v : Value} (hk : lv[k]? = some (i, v)) : ls[i]? = some (.val (av_t X v)) := by
  refine lv_at h k ?_
  rw [av_l, List.getElem?_map, hk]
  rfl
theorem av_store {X : av_X} {lv lv' : List (Nat × Value)} {i : Nat} {v : Value} (h : (i, v) :: lv.filter (fun q => !(q.1 == i) && !(q.1 + 1 == i && q.2.category == 2)) = lv') : (i, av_t X v) :: (av_l X lv).filter (fun q => !(q.1 == i) && !(q.1 + 1 == i && q.2.category == 2)) = av_l X lv' := by
  subst h
  rw [av_l, List.filter_map]
  have e : ((fun q : Nat × Value => !(q.1 == i) && !(q.1 + 1 == i && q.2.category == 2)) ∘ fun q : Nat × Value => (q.1, av_t X q.2)) = (fun q : Nat × Value => !(q.1 == i) && !(q.1 + 1 == i && q.2.category == 2)) := by
    funext q
    simp only [Function.comp, av_cat]
  rw [e]
  rfl
theorem av_args {X : av_X} : ∀ (vs : List Value) (i : Nat), av_l X (lv_args i vs) = lv_args i (vs.map (av_t X))
  | [], _ => rfl
  | v :: vs, i => by
    show (i, av_t X v) :: av_l X (lv_args (if v.category = 2 then i + 2 else i + 1) vs) = (i, av_t X v) :: lv_args (if (av_t X v).category = 2 then i + 2 else i + 1) (vs.map (av_t X))
    rw [av_cat, av_args vs]
theorem av_sl {X : av_X} (vs : List Value) : (lg_sl (vs.map (av_t X))).length = (lg_sl vs).length := by
  induction vs with
  | nil => rfl
  | cons v vs ih =>
    simp only [lg_sl, List.map_cons, List.flatMap_cons, List.length_append] at ih ⊢
    rw [ih, av_cat]
    split <;> rfl
theorem av_cats {X : av_X} (st : List Value) : ((st.map (av_t X)).map fun v => v.category) = st.map fun v => v.category := by
  rw [List.map_map]
  apply List.map_congr_left
  intro v _
  exact av_cat v
/-! ===== the judgement ===== -/
def av_G (X : av_X) (A : Nat → Prop) (s : State) : Prop := vk_R RX2 38 "imnpst" (X.2.1 87) s ∧ vk_S 1 [6] [[105, 109, 110, 112, 115, 116]] (fun _ => X.2.1 87) (fun _ => X.2.1 88) A s s.heap ∧ va_Z "java/lang/String" "COMPACT_STRINGS" "Z" (.int 1) A s s.heap
def av_rt (cc : ByteArray) (ret : Option FieldType) (pc : Nat) (v : Option Value) : Prop :=
  (v = none ∧ ret = none ∧ decode cc pc = .ok (.return_, 1)) ∨ (∃ x : Int32, v = some (.int x) ∧ decode cc pc = .ok (.ireturn, 1) ∧ ∃ ty, ret = some ty ∧ narrow ty (.int x) = .int x)
abbrev av_Ex : Type := av_X → (Nat → Prop) → State → Prop
def av_E0 : av_Ex := fun _ _ _ => True
def av_F (l : Launch) (own : String) (cc : ByteArray) (nL : Nat) (ret : Option FieldType) (E : av_Ex) (d : Nat) (Q : Option Value → av_S → Prop) (X : av_X) (p : Program) (e : Env) (R : Room) (s : State) (m : MethodId) (args : Array Value) (below : List Frame) (meth : Method) (c : Code) (A : Nat → Prop) (cells slots : Nat) (Z : State → Prop) : Prop :=
  p.tables.exec = Jvm.exec ∧ c.code = cc ∧ c.maxLocals = nL ∧ s.vm.findClass own = some m.cls ∧ (∀ w ∈ wG, w.before args s = true) ∧ (∀ w ∈ wN, va_Nw w s) ∧ av_G X A s ∧ E X A s ∧ va_K X.1 vwCl (av_tys X) s ∧ (∀ q, s.heap.size ≤ q → A q) ∧ (∀ σ, va_D A (av_w X σ)) ∧ (d ≤ R.frames ∧ 40 * d ≤ R.locals) ∧ (cells ≤ R.cells ∧ slots ≤ R.slots) ∧
  ∀ (v : Option Value) (σ : av_S) (H : Heap) (locs : List Loc) (pc : Nat) (ls : Array Slot), Q v σ → va_P X.1 vwCl (av_w X σ) H → va_S A s.heap H locs → av_rt cc ret pc v → W p l e R s m args below meth c H locs cells slots Z (F0 m pc ls v.toList)
def av_Ev (l : Launch) (own : String) (cc : ByteArray) (nL : Nat) (ret : Option FieldType) (E : av_Ex) (d pc : Nat) (lv : List (Nat × Value)) (st : List Value) (σ : av_S) (Q : Option Value → av_S → Prop) : Prop :=
  ∀ (X : av_X) (p : Program) (e : Env) (R : Room) (s : State) (m : MethodId) (args : Array Value) (below : List Frame) (meth : Method) (c : Code) (A : Nat → Prop) (cells slots : Nat) (Z : State → Prop), av_F l own cc nL ret E d Q X p e R s m args below meth c A cells slots Z →
    ∀ (H : Heap) (locs : List Loc) (ls : Array Slot), va_P X.1 vwCl (av_w X σ) H → va_S A s.heap H locs → lv_has ls nL (av_l X lv) → W p l e R s m args below meth c H locs cells slots Z (F0 m pc ls (st.map (av_t X)))
/-- a method: from these arguments and this store it comes to its end with this answer and that store -/
def av_M (l : Launch) (own : String) (cc : ByteArray) (nL : Nat) (ret : Option FieldType) (d : Nat) (vs : List Value) (σ : av_S) (r : Option Value) (σ' : av_S) : Prop :=
  ∀ (Q : Option Value → av_S → Prop), Q r σ' → av_Ev l own cc nL ret av_E0 d 0 (lv_args 0 vs) [] σ Q
end
section
section AvRules
variable {l : Launch} {own : String} {cc : ByteArray} {nL : Nat} {ret : Option FieldType} {E : av_Ex} {d pc : Nat} {lv lv' : List (Nat × Value)} {st : List Value} {σ : av_S} {Q : Option Value → av_S → Prop}
theorem ev_iconst {n : Int} {v : Int32} (hd : decode cc pc = .ok (.iconst n, 1)) (hv : Int32.ofInt n = v) (k : av_Ev l own cc nL ret E d (pc + 1) lv (.int v :: st) σ Q) : av_Ev l own cc nL ret E d (pc) lv (st) σ Q :=
  fun X p e R s m args below meth c A cells slots Z F H locs ls hP hS hl => lv_iconst F.1 F.2.1 hd hv (k X p e R s m args below meth c A cells slots Z F H locs ls hP hS hl)
theorem ev_bipush {n : Int} {v : Int32} (hd : decode cc pc = .ok (.bipush n, 2)) (hv : (Int8.ofInt n).toInt32 = v) (k : av_Ev l own cc nL ret E d (pc + 2) lv (.int v :: st) σ Q) : av_Ev l own cc nL ret E d (pc) lv (st) σ Q :=
  fun X p e R s m args below meth c A cells slots Z F H locs ls hP hS hl => lv_bipush F.1 F.2.1 hd hv (k X p e R s m args below meth c A cells slots Z F H locs ls hP hS hl)
theorem ev_sipush {n : Int} {v : Int32} (hd : decode cc pc = .ok (.sipush n, 3)) (hv : (Int16.ofInt n).toInt32 = v) (k : av_Ev l own cc nL ret E d (pc + 3) lv (.int v :: st) σ Q) : av_Ev l own cc nL ret E d (pc) lv (st) σ Q :=
  fun X p e R s m args below meth c A cells slots Z F H locs ls hP hS hl => lv_sipush F.1 F.2.1 hd hv (k X p e R s m args below meth c A cells slots Z F H locs ls hP hS hl)
theorem ev_iload {i : Nat} {x : Int32} (hd : decode cc pc = .ok (.iload i, 2)) (j : Nat) (hj : lv[j]? = some (i, .int x)) (k : av_Ev l own cc nL ret E d (pc + 2) lv (.int x :: st) σ Q) : av_Ev l own cc nL ret E d (pc) lv (st) σ Q :=
  fun X p e R s m args below meth c A cells slots Z F H locs ls hP hS hl => lv_iload F.1 F.2.1 hd (av_at hl hj) (k X p e R s m args below meth c A cells slots Z F H locs ls hP hS hl)
theorem ev_iload_n {i : Nat} {x : Int32} {k4 : Fin 4} (hd : decode cc pc = .ok (.iload_n k4, 1)) (hi : (k4 : Nat) = i) (j : Nat) (hj : lv[j]? = some (i, .int x)) (k : av_Ev l own cc nL ret E d (pc + 1) lv (.int x :: st) σ Q) : av_Ev l own cc nL ret E d (pc) lv (st) σ Q :=
  fun X p e R s m args below meth c A cells slots Z F H locs ls hP hS hl => lv_iload_n F.1 F.2.1 hd hi (av_at hl hj) (k X p e R s m args below meth c A cells slots Z F H locs ls hP hS hl)
theorem ev_aload {i : Nat} {x : Nat} (hd : decode cc pc = .ok (.aload i, 2)) (j : Nat) (hj : lv[j]? = some (i, .ref x)) (k : av_Ev l own cc nL ret E d (pc + 2) lv (.ref x :: st) σ Q) : av_Ev l own cc nL ret E d (pc) lv (st) σ Q :=
  fun X p e R s m args below meth c A cells slots Z F H locs ls hP hS hl => lv_aload F.1 F.2.1 hd (av_at hl hj) (k X p e R s m args below meth c A cells slots Z F H locs ls hP hS hl)
theorem ev_aload_n {i : Nat} {x : Nat} {k4 : Fin 4} (hd : decode cc pc = .ok (.aload_n k4, 1)) (hi : (k4 : Nat) = i) (j : Nat) (hj : lv[j]? = some (i, .ref x)) (k : av_Ev l own cc nL ret E d (pc + 1) lv (.ref x :: st) σ Q) : av_Ev l own cc nL ret E d (pc) lv (st) σ Q :=
  fun X p e R s m args below meth c A cells slots Z F H locs ls hP hS hl => lv_aload_n F.1 F.2.1 hd hi (av_at hl hj) (k X p e R s m args below meth c A cells slots Z F H locs ls hP hS hl)
theorem ev_istore {i : Nat} {x : Int32} (hd : decode cc pc = .ok (.istore i, 2)) (hn : i < nL) (h : (i, Value.int x) :: lv.filter (fun q => !(q.1 == i) && !(q.1 + 1 == i && q.2.category == 2)) = lv') (k : av_Ev l own cc nL ret E d (pc + 2) lv' (st) σ Q) : av_Ev l own cc nL ret E d (pc) lv (.int x :: st) σ Q :=
  fun X p e R s m args below meth c A cells slots Z F H locs ls hP hS hl => lv_istore F.1 F.2.1 hd hl hn (av_store h) (fun ls hl => k X p e R s m args below meth c A cells slots Z F H locs ls hP hS hl)
theorem ev_istore_n {i : Nat} {x : Int32} {k4 : Fin 4} (hd : decode cc pc = .ok (.istore_n k4, 1)) (hi : (k4 : Nat) = i) (hn : i < nL) (h : (i, Value.int x) :: lv.filter (fun q => !(q.1 == i) && !(q.1 + 1 == i && q.2.category == 2)) = lv') (k : av_Ev l own cc nL ret E d (pc + 1) lv' (st) σ Q) : av_Ev l own cc nL ret E d (pc) lv (.int x :: st) σ Q :=
  fun X p e R s m args below meth c A cells slots Z F H locs ls hP hS hl => lv_istore_n F.1 F.2.1 hd hi hl hn (av_store h) (fun ls hl => k X p e R s m args below meth c A cells slots Z F H locs ls hP hS hl)
theorem ev_astore {i : Nat} {x : Nat} (hd : decode cc pc = .ok (.astore i, 2)) (hn : i < nL) (h : (i, Value.ref x) :: lv.filter (fun q => !(q.1 == i) && !(q.1 + 1 == i && q.2.category == 2)) = lv') (k : av_Ev l own cc nL ret E d (pc + 2) lv' (st) σ Q) : av_Ev l own cc nL ret E d (pc) lv (.ref x :: st) σ Q :=
  fun X p e R s m args below meth c A cells slots Z F H locs ls hP hS hl => lv_astore F.1 F.2.1 hd hl hn (av_store h) (fun ls hl => k X p e R s m args below meth c A cells slots Z F H locs ls hP hS hl)
theorem ev_astore_n {i : Nat} {x : Nat} {k4 : Fin 4} (hd : decode cc pc = .ok (.astore_n k4, 1)) (hi : (k4 : Nat) = i) (hn : i < nL) (h : (i, Value.ref x) :: lv.filter (fun q => !(q.1 == i) && !(q.1 + 1 == i && q.2.category == 2)) = lv') (k : av_Ev l own cc nL ret E d (pc + 1) lv' (st) σ Q) : av_Ev l own cc nL ret E d (pc) lv (.ref x :: st) σ Q :=
  fun X p e R s m args below meth c A cells slots Z F H locs ls hP hS hl => lv_astore_n F.1 F.2.1 hd hi hl hn (av_store h) (fun ls hl => k X p e R s m args below meth c A cells slots Z F H locs ls hP hS hl)
theorem ev_iinc {i : Nat} {n : Int} {x v : Int32} (hd : decode cc pc = .ok (.iinc i n, 3)) (j : Nat) (hj : lv[j]? = some (i, .int x)) (hv : x + Int32.ofInt n = v) (hn : i < nL) (h : (i, Value.int v) :: lv.filter (fun q => !(q.1 == i) && !(q.1 + 1 == i && q.2.category == 2)) = lv') (k : av_Ev l own cc nL ret E d (pc + 3) lv' (st) σ Q) : av_Ev l own cc nL ret E d (pc) lv (st) σ Q :=
  fun X p e R s m args below meth c A cells slots Z F H locs ls hP hS hl => lv_iinc F.1 F.2.1 hd hl (k := j) (by rw [av_l, List.getElem?_map, hj]; rfl) hv hn (av_store h) (fun ls hl => k X p e R s m args below meth c A cells slots Z F H locs ls hP hS hl)
theorem ev_iadd {x y : Int32} (hd : decode cc pc = .ok (.iadd, 1)) (k : av_Ev l own cc nL ret E d (pc + 1) lv (.int (x + y) :: st) σ Q) : av_Ev l own cc nL ret E d (pc) lv (.int y :: .int x :: st) σ Q :=
  fun X p e R s m args below meth c A cells slots Z F H locs ls hP hS hl => lv_iadd F.1 F.2.1 hd (k X p e R s m args below meth c A cells slots Z F H locs ls hP hS hl)
theorem ev_isub {x y : Int32} (hd : decode cc pc = .ok (.isub, 1)) (k : av_Ev l own cc nL ret E d (pc + 1) lv (.int (x - y) :: st) σ Q) : av_Ev l own cc nL ret E d (pc) lv (.int y :: .int x :: st) σ Q :=
  fun X p e R s m args below meth c A cells slots Z F H locs ls hP hS hl => lv_isub F.1 F.2.1 hd (k X p e R s m args below meth c A cells slots Z F H locs ls hP hS hl)
theorem ev_imul {x y : Int32} (hd : decode cc pc = .ok (.imul, 1)) (k : av_Ev l own cc nL ret E d (pc + 1) lv (.int (x * y) :: st) σ Q) : av_Ev l own cc nL ret E d (pc) lv (.int y :: .int x :: st) σ Q :=
  fun X p e R s m args below meth c A cells slots Z F H locs ls hP hS hl => lv_imul F.1 F.2.1 hd (k X p e R s m args below meth c A cells slots Z F H locs ls hP hS hl)
theorem ev_iand {x y : Int32} (hd : decode cc pc = .ok (.iand, 1)) (k : av_Ev l own cc nL ret E d (pc + 1) lv (.int (x &&& y) :: st) σ Q) : av_Ev l own cc nL ret E d (pc) lv (.int y :: .int x :: st) σ Q :=
  fun X p e R s m args below meth c A cells slots Z F H locs ls hP hS hl => lv_iand F.1 F.2.1 hd (k X p e R s m args below meth c A cells slots Z F H locs ls hP hS hl)
theorem ev_ior {x y : Int32} (hd : decode cc pc = .ok (.ior, 1)) (k : av_Ev l own cc nL ret E d (pc + 1) lv (.int (x ||| y) :: st) σ Q) : av_Ev l own cc nL ret E d (pc) lv (.int y :: .int x :: st) σ Q :=
  fun X p e R s m args below meth c A cells slots Z F H locs ls hP hS hl => lv_ior F.1 F.2.1 hd (k X p e R s m args below meth c A cells slots Z F H locs ls hP hS hl)
theorem ev_ixor {x y : Int32} (hd : decode cc pc = .ok (.ixor, 1)) (k : av_Ev l own cc nL ret E d (pc + 1) lv (.int (x ^^^ y) :: st) σ Q) : av_Ev l own cc nL ret E d (pc) lv (.int y :: .int x :: st) σ Q :=
  fun X p e R s m args below meth c A cells slots Z F H locs ls hP hS hl => lv_ixor F.1 F.2.1 hd (k X p e R s m args below meth c A cells slots Z F H locs ls hP hS hl)
theorem ev_ishl {x y : Int32} (hd : decode cc pc = .ok (.ishl, 1)) (k : av_Ev l own cc nL ret E d (pc + 1) lv (.int (x <<< (y &&& 31)) :: st) σ Q) : av_Ev l own cc nL ret E d (pc) lv (.int y :: .int x :: st) σ Q :=
  fun X p e R s m args below meth c A cells slots Z F H locs ls hP hS hl => lv_ishl F.1 F.2.1 hd (k X p e R s m args below meth c A cells slots Z F H locs ls hP hS hl)
theorem ev_ishr {x y : Int32} (hd : decode cc pc = .ok (.ishr, 1)) (k : av_Ev l own cc nL ret E d (pc + 1) lv (.int (x >>> (y &&& 31)) :: st) σ Q) : av_Ev l own cc nL ret E d (pc) lv (.int y :: .int x :: st) σ Q :=
  fun X p e R s m args below meth c A cells slots Z F H locs ls hP hS hl => lv_ishr F.1 F.2.1 hd (k X p e R s m args below meth c A cells slots Z F H locs ls hP hS hl)
theorem ev_iushr {x y : Int32} (hd : decode cc pc = .ok (.iushr, 1)) (k : av_Ev l own cc nL ret E d (pc + 1) lv (.int (x.toUInt32 >>> (y.toUInt32 &&& Int32.toUInt32 31)).toInt32 :: st) σ Q) : av_Ev l own cc nL ret E d (pc) lv (.int y :: .int x :: st) σ Q :=
  fun X p e R s m args below meth c A cells slots Z F H locs ls hP hS hl => lv_iushr F.1 F.2.1 hd rfl (k X p e R s m args below meth c A cells slots Z F H locs ls hP hS hl)
theorem ev_i2c {x : Int32} (hd : decode cc pc = .ok (.i2c, 1)) (k : av_Ev l own cc nL ret E d (pc + 1) lv (.int (x.toUInt32 % 65536).toInt32 :: st) σ Q) : av_Ev l own cc nL ret E d (pc) lv (.int x :: st) σ Q :=
  fun X p e R s m args below meth c A cells slots Z F H locs ls hP hS hl => lv_i2c F.1 F.2.1 hd rfl (k X p e R s m args below meth c A cells slots Z F H locs ls hP hS hl)
theorem ev_i2b {x : Int32} (hd : decode cc pc = .ok (.i2b, 1)) (k : av_Ev l own cc nL ret E d (pc + 1) lv (.int x.toInt8.toInt32 :: st) σ Q) : av_Ev l own cc nL ret E d (pc) lv (.int x :: st) σ Q :=
  fun X p e R s m args below meth c A cells slots Z F H locs ls hP hS hl => lv_i2b F.1 F.2.1 hd rfl (k X p e R s m args below meth c A cells slots Z F H locs ls hP hS hl)
theorem ev_dup_i {x : Int32} (hd : decode cc pc = .ok (.dup, 1)) (k : av_Ev l own cc nL ret E d (pc + 1) lv (.int x :: .int x :: st) σ Q) : av_Ev l own cc nL ret E d (pc) lv (.int x :: st) σ Q :=
  fun X p e R s m args below meth c A cells slots Z F H locs ls hP hS hl => lv_dup F.1 F.2.1 hd rfl (k X p e R s m args below meth c A cells slots Z F H locs ls hP hS hl)
theorem ev_dup_a {x : Nat} (hd : decode cc pc = .ok (.dup, 1)) (k : av_Ev l own cc nL ret E d (pc + 1) lv (.ref x :: .ref x :: st) σ Q) : av_Ev l own cc nL ret E d (pc) lv (.ref x :: st) σ Q :=
  fun X p e R s m args below meth c A cells slots Z F H locs ls hP hS hl => lv_dup F.1 F.2.1 hd rfl (k X p e R s m args below meth c A cells slots Z F H locs ls hP hS hl)
theorem ev_dup2_ia {x : Int32} {a : Nat} (hd : decode cc pc = .ok (.dup2, 1)) (k : av_Ev l own cc nL ret E d (pc + 1) lv (.int x :: .ref a :: .int x :: .ref a :: st) σ Q) : av_Ev l own cc nL ret E d (pc) lv (.int x :: .ref a :: st) σ Q :=
  fun X p e R s m args below meth c A cells slots Z F H locs ls hP hS hl => lv_dup2_11 F.1 F.2.1 hd rfl rfl (k X p e R s m args below meth c A cells slots Z F H locs ls hP hS hl)
theorem ev_pop_i {x : Int32} (hd : decode cc pc = .ok (.pop, 1)) (k : av_Ev l own cc nL ret E d (pc + 1) lv (st) σ Q) : av_Ev l own cc nL ret E d (pc) lv (.int x :: st) σ Q :=
  fun X p e R s m args below meth c A cells slots Z F H locs ls hP hS hl => lv_pop F.1 F.2.1 hd rfl (k X p e R s m args below meth c A cells slots Z F H locs ls hP hS hl)
theorem ev_if_eq {x : Int32} {off : Int} {tgt : Nat} (hd : decode cc pc = .ok (.ifCond .eq off, 3)) (ht : (pc : Int) + off = (tgt : Int)) (kt : x = 0 → av_Ev l own cc nL ret E d (tgt) lv (st) σ Q) (kf : ¬ x = 0 → av_Ev l own cc nL ret E d (pc + 3) lv (st) σ Q) : av_Ev l own cc nL ret E d (pc) lv (.int x :: st) σ Q :=
  fun X p e R s m args below meth c A cells slots Z F H locs ls hP hS hl => lv_if_eq F.1 F.2.1 hd ht (fun h => kt h X p e R s m args below meth c A cells slots Z F H locs ls hP hS hl) (fun h => kf h X p e R s m args below meth c A cells slots Z F H locs ls hP hS hl)
theorem ev_icmp_eq {x y : Int32} {off : Int} {tgt : Nat} (hd : decode cc pc = .ok (.if_icmp .eq off, 3)) (ht : (pc : Int) + off = (tgt : Int)) (kt : x = y → av_Ev l own cc nL ret E d (tgt) lv (st) σ Q) (kf : ¬ x = y → av_Ev l own cc nL ret E d (pc + 3) lv (st) σ Q) : av_Ev l own cc nL ret E d (pc) lv (.int y :: .int x :: st) σ Q :=
  fun X p e R s m args below meth c A cells slots Z F H locs ls hP hS hl => lv_icmp_eq F.1 F.2.1 hd ht (fun h => kt h X p e R s m args below meth c A cells slots Z F H locs ls hP hS hl) (fun h => kf h X p e R s m args below meth c A cells slots Z F H locs ls hP hS hl)
theorem ev_if_ne {x : Int32} {off : Int} {tgt : Nat} (hd : decode cc pc = .ok (.ifCond .ne off, 3)) (ht : (pc : Int) + off = (tgt : Int)) (kt : ¬ x = 0 → av_Ev l own cc nL ret E d (tgt) lv (st) σ Q) (kf : x = 0 → av_Ev l own cc nL ret E d (pc + 3) lv (st) σ Q) : av_Ev l own cc nL ret E d (pc) lv (.int x :: st) σ Q :=
  fun X p e R s m args below meth c A cells slots Z F H locs ls hP hS hl => lv_if_ne F.1 F.2.1 hd ht (fun h => kt h X p e R s m args below meth c A cells slots Z F H locs ls hP hS hl) (fun h => kf h X p e R s m args below meth c A cells slots Z F H locs ls hP hS hl)
theorem ev_icmp_ne {x y : Int32} {off : Int} {tgt : Nat} (hd : decode cc pc = .ok (.if_icmp .ne off, 3)) (ht : (pc : Int) + off = (tgt : Int)) (kt : ¬ x = y → av_Ev l own cc nL ret E d (tgt) lv (st) σ Q) (kf : x = y → av_Ev l own cc nL ret E d (pc + 3) lv (st) σ Q) : av_Ev l own cc nL ret E d (pc) lv (.int y :: .int x :: st) σ Q :=
  fun X p e R s m args below meth c A cells slots Z F H locs ls hP hS hl => lv_icmp_ne F.1 F.2.1 hd ht (fun h => kt h X p e R s m args below meth c A cells slots Z F H locs ls hP hS hl) (fun h => kf h X p e R s m args below meth c A cells slots Z F H locs ls hP hS hl)
theorem ev_if_lt {x : Int32} {off : Int} {tgt : Nat} (hd : decode cc pc = .ok (.ifCond .lt off, 3)) (ht : (pc : Int) + off = (tgt : Int)) (kt : x < 0 → av_Ev l own cc nL ret E d (tgt) lv (st) σ Q) (kf : ¬ x < 0 → av_Ev l own cc nL ret E d (pc + 3) lv (st) σ Q) : av_Ev l own cc nL ret E d (pc) lv (.int x :: st) σ Q :=
  fun X p e R s m args below meth c A cells slots Z F H locs ls hP hS hl => lv_if_lt F.1 F.2.1 hd ht (fun h => kt h X p e R s m args below meth c A cells slots Z F H locs ls hP hS hl) (fun h => kf h X p e R s m args below meth c A cells slots Z F H locs ls hP hS hl)
theorem ev_icmp_lt {x y : Int32} {off : Int} {tgt : Nat} (hd : decode cc pc = .ok (.if_icmp .lt off, 3)) (ht : (pc : Int) + off = (tgt : Int)) (kt : x < y → av_Ev l own cc nL ret E d (tgt) lv (st) σ Q) (kf : ¬ x < y → av_Ev l own cc nL ret E d (pc + 3) lv (st) σ Q) : av_Ev l own cc nL ret E d (pc) lv (.int y :: .int x :: st) σ Q :=
  fun X p e R s m args below meth c A cells slots Z F H locs ls hP hS hl => lv_icmp_lt F.1 F.2.1 hd ht (fun h => kt h X p e R s m args below meth c A cells slots Z F H locs ls hP hS hl) (fun h => kf h X p e R s m args below meth c A cells slots Z F H locs ls hP hS hl)
theorem ev_if_ge {x : Int32} {off : Int} {tgt : Nat} (hd : decode cc pc = .ok (.ifCond .ge off, 3)) (ht : (pc : Int) + off = (tgt : Int)) (kt : 0 ≤ x → av_Ev l own cc nL ret E d (tgt) lv (st) σ Q) (kf : ¬ 0 ≤ x → av_Ev l own cc nL ret E d (pc + 3) lv (st) σ Q) : av_Ev l own cc nL ret E d (pc) lv (.int x :: st) σ Q :=
  fun X p e R s m args below meth c A cells slots Z F H locs ls hP hS hl => lv_if_ge F.1 F.2.1 hd ht (fun h => kt h X p e R s m args below meth c A cells slots Z F H locs ls hP hS hl) (fun h => kf h X p e R s m args below meth c A cells slots Z F H locs ls hP hS hl)
theorem ev_icmp_ge {x y : Int32} {off : Int} {tgt : Nat} (hd : decode cc pc = .ok (.if_icmp .ge off, 3)) (ht : (pc : Int) + off = (tgt : Int)) (kt : y ≤ x → av_Ev l own cc nL ret E d (tgt) lv (st) σ Q) (kf : ¬ y ≤ x → av_Ev l own cc nL ret E d (pc + 3) lv (st) σ Q) : av_Ev l own cc nL ret E d (pc) lv (.int y :: .int x :: st) σ Q :=
  fun X p e R s m args below meth c A cells slots Z F H locs ls hP hS hl => lv_icmp_ge F.1 F.2.1 hd ht (fun h => kt h X p e R s m args below meth c A cells slots Z F H locs ls hP hS hl) (fun h => kf h X p e R s m args below meth c A cells slots Z F H locs ls hP hS hl)
theorem ev_if_gt {x : Int32} {off : Int} {tgt : Nat} (hd : decode cc pc = .ok (.ifCond .gt off, 3)) (ht : (pc : Int) + off = (tgt : Int)) (kt : 0 < x → av_Ev l own cc nL ret E d (tgt) lv (st) σ Q) (kf : ¬ 0 < x → av_Ev l own cc nL ret E d (pc + 3) lv (st) σ Q) : av_Ev l own cc nL ret E d (pc) lv (.int x :: st) σ Q :=
  fun X p e R s m args below meth c A cells slots Z F H locs ls hP hS hl => lv_if_gt F.1 F.2.1 hd ht (fun h => kt h X p e R s m args below meth c A cells slots Z F H locs ls hP hS hl) (fun h => kf h X p e R s m args below meth c A cells slots Z F H locs ls hP hS hl)
theorem ev_icmp_gt {x y : Int32} {off : Int} {tgt : Nat} (hd : decode cc pc = .ok (.if_icmp .gt off, 3)) (ht : (pc : Int) + off = (tgt : Int)) (kt : y < x → av_Ev l own cc nL ret E d (tgt) lv (st) σ Q) (kf : ¬ y < x → av_Ev l own cc nL ret E d (pc + 3) lv (st) σ Q) : av_Ev l own cc nL ret E d (pc) lv (.int y :: .int x :: st) σ Q :=
  fun X p e R s m args below meth c A cells slots Z F H locs ls hP hS hl => lv_icmp_gt F.1 F.2.1 hd ht (fun h => kt h X p e R s m args below meth c A cells slots Z F H locs ls hP hS hl) (fun h => kf h X p e R s m args below meth c A cells slots Z F H locs ls hP hS hl)
theorem ev_if_le {x : Int32} {off : Int} {tgt : Nat} (hd : decode cc pc = .ok (.ifCond .le off, 3)) (ht : (pc : Int) + off = (tgt : Int)) (kt : x ≤ 0 → av_Ev l own cc nL ret E d (tgt) lv (st) σ Q) (kf : ¬ x ≤ 0 → av_Ev l own cc nL ret E d (pc + 3) lv (st) σ Q) : av_Ev l own cc nL ret E d (pc) lv (.int x :: st) σ Q :=
  fun X p e R s m args below meth c A cells slots Z F H locs ls hP hS hl => lv_if_le F.1 F.2.1 hd ht (fun h => kt h X p e R s m args below meth c A cells slots Z F H locs ls hP hS hl) (fun h => kf h X p e R s m args below meth c A cells slots Z F H locs ls hP hS hl)
theorem ev_icmp_le {x y : Int32} {off : Int} {tgt : Nat} (hd : decode cc pc = .ok (.if_icmp .le off, 3)) (ht : (pc : Int) + off = (tgt : Int)) (kt : x ≤ y → av_Ev l own cc nL ret E d (tgt) lv (st) σ Q) (kf : ¬ x ≤ y → av_Ev l own cc nL ret E d (pc + 3) lv (st) σ Q) : av_Ev l own cc nL ret E d (pc) lv (.int y :: .int x :: st) σ Q :=
  fun X p e R s m args below meth c A cells slots Z F H locs ls hP hS hl => lv_icmp_le F.1 F.2.1 hd ht (fun h => kt h X p e R s m args below meth c A cells slots Z F H locs ls hP hS hl) (fun h => kf h X p e R s m args below meth c A cells slots Z F H locs ls hP hS hl)
theorem ev_goto {off : Int} {tgt : Nat} (hd : decode cc pc = .ok (.goto off, 3)) (ht : (pc : Int) + off = (tgt : Int)) (k : av_Ev l own cc nL ret E d (tgt) lv (st) σ Q) : av_Ev l own cc nL ret E d (pc) lv (st) σ Q :=
  fun X p e R s m args below meth c A cells slots Z F H locs ls hP hS hl => lv_goto F.1 F.2.1 hd ht (k X p e R s m args below meth c A cells slots Z F H locs ls hP hS hl)
theorem ev_ifnull {x : Nat} {off : Int} (hd : decode cc pc = .ok (.ifnull off, 3)) (k : av_Ev l own cc nL ret E d (pc + 3) lv (st) σ Q) : av_Ev l own cc nL ret E d (pc) lv (.ref x :: st) σ Q :=
  fun X p e R s m args below meth c A cells slots Z F H locs ls hP hS hl => lv_ifnull F.1 F.2.1 hd (k X p e R s m args below meth c A cells slots Z F H locs ls hP hS hl)
theorem ev_lv (ks : List Nat) (h : lv_pick lv ks = lv') (k : av_Ev l own cc nL ret E d (pc) lv' (st) σ Q) : av_Ev l own cc nL ret E d (pc) lv (st) σ Q :=
  fun X p e R s m args below meth c A cells slots Z F H locs ls hP hS hl => k X p e R s m args below meth c A cells slots Z F H locs ls hP hS (lv_sub hl ks (by rw [← h]; simp only [lv_pick, av_l, List.getElem?_map]; rw [List.map_filterMap]))
theorem ev_mono {d' : Nat} (hdd : d' ≤ d) (k : av_Ev l own cc nL ret E d' pc lv st σ Q) : av_Ev l own cc nL ret E d (pc) lv (st) σ Q :=
  fun X p e R s m args below meth c A cells slots Z F H locs ls hP hS hl => k X p e R s m args below meth c A cells slots Z ⟨F.1, F.2.1, F.2.2.1, F.2.2.2.1, F.2.2.2.2.1, F.2.2.2.2.2.1, F.2.2.2.2.2.2.1, F.2.2.2.2.2.2.2.1, F.2.2.2.2.2.2.2.2.1, F.2.2.2.2.2.2.2.2.2.1, F.2.2.2.2.2.2.2.2.2.2.1, ⟨Nat.le_trans hdd F.2.2.2.2.2.2.2.2.2.2.2.1.1, Nat.le_trans (Nat.mul_le_mul_left 40 hdd) F.2.2.2.2.2.2.2.2.2.2.2.1.2⟩, F.2.2.2.2.2.2.2.2.2.2.2.2.1, F.2.2.2.2.2.2.2.2.2.2.2.2.2⟩ H locs ls hP hS hl
theorem ev_ireturn {x : Int32} (hd : decode cc pc = .ok (.ireturn, 1)) {ty : FieldType} (hr : ret = some ty) (hn : narrow ty (.int x) = .int x) (hQ : Q (some (.int x)) σ) : av_Ev l own cc nL ret E d (pc) lv ([.int x]) σ Q :=
  fun X p e R s m args below meth c A cells slots Z F H locs ls hP hS hl => F.2.2.2.2.2.2.2.2.2.2.2.2.2 (some (.int x)) σ H locs pc ls hQ hP hS (Or.inr ⟨x, rfl, hd, ty, hr, hn⟩)
theorem ev_return (hd : decode cc pc = .ok (.return_, 1)) (hr : ret = none) (hQ : Q none σ) : av_Ev l own cc nL ret E d (pc) lv ([]) σ Q :=
  fun X p e R s m args below meth c A cells slots Z F H locs ls hP hS hl => F.2.2.2.2.2.2.2.2.2.2.2.2.2 none σ H locs pc ls hQ hP hS (Or.inl ⟨rfl, hr, hd⟩)
end AvRules
end
section
/-! ===== fields, arrays, calls ===== -/
section AvHeap
variable {l : Launch} {own : String} {cc : ByteArray} {nL : Nat} {ret : Option FieldType} {E : av_Ex} {d pc : Nat} {lv lv' : List (Nat × Value)} {st : List Value} {σ : av_S} {Q : Option Value → av_S → Prop}
theorem av_sh_in {k ci : Nat} {fl : List (Option Nat)} {X : av_X} {σ : av_S} (hk : k < 86) (h : av_sh k = .inl (ci, fl)) : (av_w X σ)[k]? = some (X.2.1 k, .inr (ci, fl.mapIdx (av_f X σ k))) := by
  rw [av_w_at hk, av_e_obj h]
theorem av_arr_in {k kd n : Nat} {X : av_X} {σ : av_S} (hk : k < 86) (h : av_sh k = .inr (.inl (kd, n))) : (av_w X σ)[k]? = some (X.2.1 k, .inl (X.2.2 kd, n, .inl (σ k))) := by
  rw [av_w_at hk, av_e_arr h]
theorem av_ref_in {k kd n : Nat} {f : Nat → Nat} {X : av_X} {σ : av_S} (hk : k < 86) (h : av_sh k = .inr (.inr (kd, n, f))) : (av_w X σ)[k]? = some (X.2.1 k, .inl (X.2.2 kd, n, .inr (.inr (.inr (.inr (fun i => some (X.2.1 (f i)))))))) := by
  rw [av_w_at hk, av_e_ref h]
theorem av_fget {k i : Nat} {fl : List (Option Nat)} {g : Option Nat} {X : av_X} {σ : av_S} (h : fl[i]? = some g) : (fl.mapIdx (av_f X σ k))[i]? = some (av_f X σ k i g) := by
  rw [List.getElem?_mapIdx, h]; rfl
/-- the words of a class' fields, and that its types and names are right -/
def av_Cl (ci : Nat) (C : String) (T : u_T) (N : Nat) (ty0 : Nat → FieldType) : Prop := vwCl[ci]? = some (C, T, N) ∧ (∀ w ∈ u_ws C T N, w ∈ wG) ∧ (∀ k, k < N → parseFieldDescriptor (T k).2.2.1 = some (ty0 k)) ∧ (∀ a, a < N → ∀ b, b < N → a ≠ b → (T a).2.1 ≠ (T b).2.1)
/-- the link of a field's word: own's pool number index is the field k of the class -/
def av_lk (own : String) (index : Nat) (T : u_T) (k : Nat) : Prop := Cond.fieldLink own index (T k).1 (T k).2.1 (T k).2.2.1 ∈ wG ∨ ∃ host, Cond.fieldLinkNest own index (T k).1 (T k).2.1 (T k).2.2.1 host ∈ wN
def av_g (σ : av_S) (k i : Nat) : Option Nat → Value
  | none => .int (σ k i)
  | some r => .ref r
theorem ev_getfield {C : String} {T : u_T} {N ci index k i : Nat} {ty0 : Nat → FieldType} {fl : List (Option Nat)} {g : Option Nat} (hd : decode cc pc = .ok (.getfield index, 3)) (hC : av_Cl ci C T N ty0) (hL : av_lk own index T i) (hi : i < N) (hk : k < 86) (hs : av_sh k = .inl (ci, fl)) (hg : fl[i]? = some g)
    (kk : av_Ev l own cc nL ret E d (pc + 3) lv (av_g σ k i g :: st) σ Q) : av_Ev l own cc nL ret E d pc lv (.ref k :: st) σ Q := by
  intro X p e R s m args below meth c A cells slots Z F H locs ls hP hS hl
  have hv := av_fget (X := X) (σ := σ) (k := k) hg
  have K := kk X p e R s m args below meth c A cells slots Z F H locs ls hP hS hl
  have e1 : av_t X (av_g σ k i g) = av_f X σ k i g := by cases g <;> rfl
  rw [List.map_cons, e1] at K
  rcases hL with hL | ⟨host, hL⟩
  · exact va_get (D := X.1) (C := C) (T := T) (N := N) (own := own) (ref := (T i).1) F.1 F.2.1 F.2.2.2.2.1 hC.2.1 F.2.2.2.1 F.2.2.2.2.2.2.2.2.1 hP k (av_sh_in hk hs) hC.1 i hi (F.2.2.2.2.1 _ hL) (fun _ h9 => h9) hv hd K
  · exact va_getN (D := X.1) (C := C) (T := T) (N := N) (own := own) (ref := (T i).1) (host := host) F.1 F.2.1 F.2.2.2.2.1 hC.2.1 F.2.2.2.1 F.2.2.2.2.2.2.2.2.1 hP k (av_sh_in hk hs) hC.1 i hi (va_Nw.use rfl (F.2.2.2.2.2.1 _ hL)) (fun _ h9 => h9) hv hd K
theorem ev_getI {C : String} {T : u_T} {N ci index k i : Nat} {ty0 : Nat → FieldType} {fl : List (Option Nat)} (hd : decode cc pc = .ok (.getfield index, 3)) (hC : av_Cl ci C T N ty0) (hL : av_lk own index T i) (hi : i < N) (hk : k < 86) (hs : av_sh k = .inl (ci, fl)) (hg : fl[i]? = some none)
    (kk : av_Ev l own cc nL ret E d (pc + 3) lv (.int (σ k i) :: st) σ Q) : av_Ev l own cc nL ret E d pc lv (.ref k :: st) σ Q := ev_getfield hd hC hL hi hk hs hg kk
theorem ev_getR {C : String} {T : u_T} {N ci index k i r : Nat} {ty0 : Nat → FieldType} {fl : List (Option Nat)} (hd : decode cc pc = .ok (.getfield index, 3)) (hC : av_Cl ci C T N ty0) (hL : av_lk own index T i) (hi : i < N) (hk : k < 86) (hs : av_sh k = .inl (ci, fl)) (hg : fl[i]? = some (some r))
    (kk : av_Ev l own cc nL ret E d (pc + 3) lv (.ref r :: st) σ Q) : av_Ev l own cc nL ret E d pc lv (.ref k :: st) σ Q := ev_getfield hd hC hL hi hk hs hg kk
theorem ev_putI {C : String} {T : u_T} {N ci index k i : Nat} {ty0 : Nat → FieldType} {fl : List (Option Nat)} {v : Int32} (hd : decode cc pc = .ok (.putfield index, 3)) (hC : av_Cl ci C T N ty0) (hL : av_lk own index T i) (hi : i < N) (hk : k < 86) (hs : av_sh k = .inl (ci, fl)) (hg : fl[i]? = some none) (hfin : (T i).2.2.2 = false) (hty : ty0 i = .int)
    (kk : av_Ev l own cc nL ret E d (pc + 3) lv st (av_set σ k (upd (σ k) i v)) Q) : av_Ev l own cc nL ret E d pc lv (.int v :: .ref k :: st) σ Q := by
  intro X p e R s m args below meth c A cells slots Z F H locs ls hP hS hl
  have hil : i < fl.length := (List.getElem?_eq_some_iff.mp hg).1
  have hpd : parseFieldDescriptor (T i).2.2.1 = some .int := by rw [hC.2.2.1 i hi, hty]
  have e1 : ∀ H1 : Heap, va_P X.1 vwCl ((av_w X σ).set k (X.2.1 k, .inr (ci, (fl.mapIdx (av_f X σ k)).set i (.int v)))) H1 → va_P X.1 vwCl (av_w X (av_set σ k (upd (σ k) i v))) H1 := fun H1 h => by
    rw [← av_e_put hs hg, av_w_set hk] at h
    exact h
  rcases hL with hL | ⟨host, hL⟩
  · exact va_put (D := X.1) (C := C) (T := T) (N := N) (own := own) (ref := (T i).1) (v := .int v) (ty := .int) F.1 F.2.1 F.2.2.2.2.1 hC.2.1 ty0 hC.2.2.1 hC.2.2.2 F.2.2.2.1 F.2.2.2.2.2.2.2.2.1 hP (F.2.2.2.2.2.2.2.2.2.2.1 σ) hS k (av_sh_in hk hs) hC.1 i hi (F.2.2.2.2.1 _ hL) (fun _ h9 => h9) hfin hpd rfl rfl (by rw [List.length_mapIdx]; exact hil) hd (fun H1 locs1 h1 _ h3 => kk X p e R s m args below meth c A cells slots Z F H1 locs1 ls (e1 H1 h1) h3 hl)
  · exact va_putN (D := X.1) (C := C) (T := T) (N := N) (own := own) (ref := (T i).1) (host := host) (v := .int v) (ty := .int) F.1 F.2.1 F.2.2.2.2.1 hC.2.1 ty0 hC.2.2.1 hC.2.2.2 F.2.2.2.1 F.2.2.2.2.2.2.2.2.1 hP (F.2.2.2.2.2.2.2.2.2.2.1 σ) hS k (av_sh_in hk hs) hC.1 i hi (va_Nw.use rfl (F.2.2.2.2.2.1 _ hL)) (fun _ h9 => h9) hfin hpd rfl rfl (by rw [List.length_mapIdx]; exact hil) hd (fun H1 locs1 h1 _ h3 => kk X p e R s m args below meth c A cells slots Z F H1 locs1 ls (e1 H1 h1) h3 hl)
theorem ev_iaload {k n : Nat} {i : Int32} (hd : decode cc pc = .ok (.iaload, 1)) (hk : k < 86) (hs : av_sh k = .inr (.inl (0, n))) (hin : vp_in i n)
    (kk : av_Ev l own cc nL ret E d (pc + 1) lv (.int (σ k i.toNatClampNeg) :: st) σ Q) : av_Ev l own cc nL ret E d pc lv (.int i :: .ref k :: st) σ Q := by
  intro X p e R s m args below meth c A cells slots Z F H locs ls hP hS hl
  exact va_iald F.1 F.2.1 F.2.2.2.2.2.2.2.2.1 hP k 0 (av_arr_in hk hs) rfl hin hd (kk X p e R s m args below meth c A cells slots Z F H locs ls hP hS hl)
theorem ev_iastore {k n : Nat} {i x : Int32} (hd : decode cc pc = .ok (.iastore, 1)) (hk : k < 86) (hs : av_sh k = .inr (.inl (0, n))) (hin : vp_in i n)
    (kk : av_Ev l own cc nL ret E d (pc + 1) lv st (av_set σ k (upd (σ k) i.toNatClampNeg x)) Q) : av_Ev l own cc nL ret E d pc lv (.int x :: .int i :: .ref k :: st) σ Q := by
  intro X p e R s m args below meth c A cells slots Z F H locs ls hP hS hl
  exact va_iast F.1 F.2.1 F.2.2.2.2.2.2.2.2.1 hP (F.2.2.2.2.2.2.2.2.2.2.1 σ) hS k 0 (av_arr_in hk hs) rfl hin hd (fun H1 locs1 h1 _ h3 => by
    rw [← av_e_aset (σ := σ) hs, av_w_set hk] at h1
    exact kk X p e R s m args below meth c A cells slots Z F H1 locs1 ls h1 h3 hl)
theorem ev_caload {k n : Nat} {i : Int32} (hd : decode cc pc = .ok (.caload, 1)) (hk : k < 86) (hs : av_sh k = .inr (.inl (1, n))) (hin : vp_in i n)
    (kk : av_Ev l own cc nL ret E d (pc + 1) lv (.int (σ k i.toNatClampNeg) :: st) σ Q) : av_Ev l own cc nL ret E d pc lv (.int i :: .ref k :: st) σ Q := by
  intro X p e R s m args below meth c A cells slots Z F H locs ls hP hS hl
  exact va_cald F.1 F.2.1 F.2.2.2.2.2.2.2.2.1 hP k 1 (av_arr_in hk hs) rfl hin hd (kk X p e R s m args below meth c A cells slots Z F H locs ls hP hS hl)
theorem ev_castore {k n : Nat} {i x : Int32} (hd : decode cc pc = .ok (.castore, 1)) (hk : k < 86) (hs : av_sh k = .inr (.inl (1, n))) (hin : vp_in i n)
    (kk : av_Ev l own cc nL ret E d (pc + 1) lv st (av_set σ k (upd (σ k) i.toNatClampNeg (vp_nar .char x))) Q) : av_Ev l own cc nL ret E d pc lv (.int x :: .int i :: .ref k :: st) σ Q := by
  intro X p e R s m args below meth c A cells slots Z F H locs ls hP hS hl
  exact va_cast F.1 F.2.1 F.2.2.2.2.2.2.2.2.1 hP (F.2.2.2.2.2.2.2.2.2.2.1 σ) hS k 1 (av_arr_in hk hs) rfl hin hd (fun H1 locs1 h1 _ h3 => by
    rw [← av_e_aset (σ := σ) hs, av_w_set hk] at h1
    exact kk X p e R s m args below meth c A cells slots Z F H1 locs1 ls h1 h3 hl)
theorem ev_alen {k kd n : Nat} {v : Int32} (hd : decode cc pc = .ok (.arraylength, 1)) (hk : k < 86) (hs : av_sh k = .inr (.inl (kd, n))) (hkd : kd < 2) (hv : Int32.ofNat n = v)
    (kk : av_Ev l own cc nL ret E d (pc + 1) lv (.int v :: st) σ Q) : av_Ev l own cc nL ret E d pc lv (.ref k :: st) σ Q := by
  intro X p e R s m args below meth c A cells slots Z F H locs ls hP hS hl
  have hcase : kd = 0 ∨ kd = 1 := by omega
  rcases hcase with rfl | rfl
  · exact va_alen F.1 F.2.1 F.2.2.2.2.2.2.2.2.1 hP k 0 (av_arr_in hk hs) (ty := .int) rfl hv hd (kk X p e R s m args below meth c A cells slots Z F H locs ls hP hS hl)
  · exact va_alen F.1 F.2.1 F.2.2.2.2.2.2.2.2.1 hP k 1 (av_arr_in hk hs) (ty := .char) rfl hv hd (kk X p e R s m args below meth c A cells slots Z F H locs ls hP hS hl)
theorem ev_aaload {k kd n : Nat} {f : Nat → Nat} {i : Int32} (hd : decode cc pc = .ok (.aaload, 1)) (hk : k < 86) (hs : av_sh k = .inr (.inr (kd, n, f))) (hkd : kd = 2 ∨ kd = 3) (hin : vp_in i n)
    (kk : av_Ev l own cc nL ret E d (pc + 1) lv (.ref (f i.toNatClampNeg) :: st) σ Q) : av_Ev l own cc nL ret E d pc lv (.int i :: .ref k :: st) σ Q := by
  intro X p e R s m args below meth c A cells slots Z F H locs ls hP hS hl
  have hlt : i.toNatClampNeg < n := Nat.not_le.mp fun q => hin (Or.inr q)
  have K := kk X p e R s m args below meth c A cells slots Z F H locs ls hP hS hl
  rcases hkd with rfl | rfl
  · exact va_aldq (f := fun i => some (X.2.1 (f i))) F.1 F.2.1 F.2.2.2.2.2.2.2.2.1 hP k 2 (av_ref_in hk hs) rfl hin hd K
  · have ht : (av_tys X)[3]? = some (X.2.2 3, .array .int) := rfl
    exact W.aald (v := .ref (X.2.1 (f i.toNatClampNeg))) (ty := .array .int) F.1 F.2.1 (hP k _ (av_ref_in hk hs)) ((F.2.2.2.2.2.2.2.2.1.2 3 _ ht).1 n (fun j => va_rf (some (X.2.1 (f j))))) rfl (fun q => by cases q) (by show ¬ (i < 0 ∨ (arrV _ _ _).slots.size ≤ _); rw [arrV_size]; exact hin) (by show (arrV _ _ _).slots[_]? = _; rw [arrV_read _ _ hlt]; rfl) rfl rfl hd K
theorem ev_arraycopy {index k0 k1 n0 n1 : Nat} {sp dp n : Int32} (hd : decode cc pc = .ok (.invokestatic index, 3)) (hL : Cond.methodLink own index arraycopyName ∈ wG) (hw : Cond.native arraycopyName ∈ wG ∧ Cond.static arraycopyName ∈ wG ∧ Cond.initialized "java/lang/System" ∈ wG) (hd1 : 1 ≤ d) (hst : (st.map fun v => v.category).sum ≤ 8) (hk0 : k0 < 86) (hk1 : k1 < 86) (hs0 : av_sh k0 = .inr (.inl (0, n0))) (hs1 : av_sh k1 = .inr (.inl (0, n1)))
    (h1 : ¬ sp < 0) (h2 : ¬ dp < 0) (h3 : ¬ n < 0) (h4 : sp.toNatClampNeg + n.toNatClampNeg ≤ n0) (h5 : dp.toNatClampNeg + n.toNatClampNeg ≤ n1)
    (kk : av_Ev l own cc nL ret E d (pc + 3) lv st (av_set σ k1 (va_cpy (σ k0) (σ k1) sp.toNatClampNeg dp.toNatClampNeg n.toNatClampNeg)) Q) : av_Ev l own cc nL ret E d pc lv (.int n :: .int dp :: .ref k1 :: .int sp :: .ref k0 :: st) σ Q := by
  intro X p e R s m args below meth c A cells slots Z F H locs ls hP hS hl
  have hR := F.2.2.2.2.2.2.2.2.2.2.2.1
  exact va_copyi F.1 F.2.1 (by rw [F.2.2.1]; exact hl.1.symm) F.2.2.2.1 (F.2.2.2.2.1 _ hL) (F.2.2.2.2.1 _ hw.1) (F.2.2.2.2.1 _ hw.2.1) (F.2.2.2.2.1 _ hw.2.2) F.2.2.2.2.2.2.2.2.1 hP (F.2.2.2.2.2.2.2.2.2.2.1 σ) hS k0 k1 0 0 (av_arr_in hk0 hs0) (av_arr_in hk1 hs1) (ty := .int) rfl rfl rfl h1 h2 h3 h4 h5 (fun _ _ => rfl) (by omega) (by
      rw [av_cats]
      have : nativeFrameWords "java/lang/System" "arraycopy" 5 + 11 ≤ 32 := by decide
      omega) hd (fun H1 locs1 g1 _ g3 => by
    rw [← av_e_aset (σ := σ) hs1, av_w_set hk1] at g1
    exact kk X p e R s m args below meth c A cells slots Z F H1 locs1 ls g1 g3 hl)
end AvHeap
end
section
/-! ===== a method's judgement gives its contract; calls ===== -/
def av_rm (d : Nat) : Room := { frames := d, cells := 0, slots := 0, locals := 40 * d }
def av_Qc (X : av_X) (Q : Option Value → av_S → Prop) (A : Nat → Prop) : Array Value → State → Outcome → State → Prop := fun _ st oc t => (∃ (v : Option Value) (σ : av_S), oc = .returned v ∧ Q v σ ∧ va_P X.1 vwCl (av_w X σ) t.heap) ∧ va_F A st t
def av_B (X : av_X) (σ : av_S) (sz : Nat) (U : State) : Prop := U.heap.size = sz ∧ va_P X.1 vwCl (av_w X σ) U.heap ∧ va_K X.1 vwCl (av_tys X) U ∧ va_D (fun _ => True) (av_w X σ) ∧ (∀ w ∈ wN, va_Nw w U) ∧ av_G X (va_A (av_w X σ) sz) U
theorem av_G_same {X : av_X} {A : Nat → Prop} {s U : State} (hv : U.vm = s.vm) (hh : U.heap = s.heap) (h : av_G X A s) : av_G X A U := by
  refine ⟨vk_R.same hv h.1, ?_, ?_⟩
  · rw [hh]
    exact vk_S.moved (by rw [hv]; exact Vm.Alike.refl _) h.2.1
  · rw [hh]
    exact va_Z.moved (by rw [hv]; exact Vm.Alike.refl _) h.2.2
theorem av_G_go {X : av_X} {A B : Nat → Prop} {s U : State} {H : Heap} {locs : List Loc} (hW : s.WarmedH U.vm) (hU : U.heap = H) (hS : va_S A s.heap H locs) (hAB : ∀ q, B q → A q) (h : av_G X A s) : av_G X B U := by
  refine ⟨vk_R.warm hW h.1, ?_, ?_⟩
  · rw [hU]
    exact vk_S.moved hW.alike ((h.2.1.kept hS.2.1).narrow hAB)
  · rw [hU]
    exact va_Z.moved hW.alike ((h.2.2.kept hS.2.1).narrow hAB)
theorem av_blind {X : av_X} {σ : av_S} {sz : Nat} {av : List Value} : FrameBlind (va_Pc av (av_B X σ sz)) := by
  intro a U g mk q
  obtain ⟨h0, h1, h2, h3, h4, h5, h6⟩ := q
  exact ⟨h0, h1, h2, va_K.moved (u := U) (U := U.calling g mk a) (Vm.Alike.refl U.vm) h3, h4, fun w hw => av_N_same (s := U) (U := U.calling g mk a) (List.mem_filter.mp hw).2 rfl (h5 w hw), av_G_same (s := U) (U := U.calling g mk a) rfl rfl h6⟩
theorem av_met {l : Launch} {own : String} {cc : ByteArray} {nL : Nat} {ret : Option FieldType} {d : Nat} {vs : List Value} {σ : av_S} {Q : Option Value → av_S → Prop} {y : MethodName} (hy : plainName y.cls = true) (hcl : y.cls = own) (hvl : (lg_sl vs).length ≤ nL) (hEv : av_Ev l own cc nL ret av_E0 d 0 (lv_args 0 vs) [] σ Q) (X : av_X) (sz : Nat) :
    Met l y (.code y cc nL ret :: wG) (av_rm d) (va_Pc (vs.map (av_t X)) (av_B X σ sz)) (av_Qc X Q (va_A (av_w X σ) sz)) 0 0 (va_A (av_w X σ) sz) := by
  refine Met.ofW (cc := cc) (maxL := nL) (ret := ret) hy rfl ?_
  intro p e s m args below meth c s₁ B hml hv
  obtain ⟨rfl, hsz, hP, hK, hD0, hN, hG⟩ := hv
  have hts := atoms_spec (ws := .code y cc nL ret :: wG) B.pre
  have hown : s.vm.findClass own = some m.cls := by rw [← hcl]; exact findClass_of_methodNamed B.named
  subst hsz
  have hl := lv_entry (vs.map (av_t X)) (n := nL) (by rw [av_sl]; exact hvl)
  rw [lg_entry_eq]
  generalize (lg_sl (vs.map (av_t X)) ++ List.replicate (nL - (lg_sl (vs.map (av_t X))).length) Slot.unset).toArray = ls at hl ⊢
  rw [← av_args] at hl
  refine hEv X p e _ s m _ below meth c (va_A (av_w X σ) s.heap.size) 0 0 _ ⟨B.exec, B.bytes, hml, hown, fun w hw => hts w (List.mem_cons_of_mem _ hw), hN, hG, trivial, hK, fun q h => Or.inr h, fun σ' => av_D_any hD0.self, ⟨Nat.le_refl _, Nat.le_refl _⟩, ⟨Nat.zero_le _, Nat.zero_le _⟩, ?_⟩ s.heap [] ls hP va_S.rf hl
  intro v σ' H locs pc ls hQ hP' hS' hrt
  rcases hrt with ⟨rfl, hr0, hd⟩ | ⟨x, rfl, hd, ty, hr0, hn⟩
  · exact W.vret B.exec B.bytes (B.returns.trans hr0) (fun t ht hW => ⟨⟨none, σ', rfl, hQ, by rw [ht]; exact hP'⟩, hS'.F ht⟩) hS'.2.2 hd (hlocks := B.notSynchronized)
  · exact W.zret B.exec B.bytes (B.returns.trans hr0) hn (fun t ht hW => ⟨⟨some (.int x), σ', rfl, hQ, by rw [ht]; exact hP'⟩, hS'.F ht⟩) hS'.2.2 hd (hlocks := B.notSynchronized)
theorem av_callW {p : Program} {l : Launch} {e : Env} {R : Room} {s : State} {m : MethodId} {args : Array Value} {below : List Frame} {meth : Method} {c : Code} {H : Heap} {locs : List Loc} {cells slots : Nat} {Z : State → Prop} {pc : Nat} {ls : Array Slot} {rest st0 : List Value} {a : Array Value} {A0 A1 : Nat → Prop} {H0 : Heap} {X : av_X} {Q : Option Value → av_S → Prop}
    (hr : va_Run p l e R s m args below meth c H locs cells slots 0 0 (F0 m pc ls st0) rest (av_Qc X Q A1 a) A1) (hS : va_S A0 H0 H locs) (hA : ∀ q, A1 q → A0 q)
    (kk : ∀ (v : Option Value) (σ : av_S) (H1 : Heap) (locs1 : List Loc), Q v σ → va_P X.1 vwCl (av_w X σ) H1 → va_S A0 H0 H1 locs1 → W p l e R s m args below meth c H1 locs1 cells slots Z (F0 m (pc + 3) ls (v.toList ++ rest))) : W p l e R s m args below meth c H locs cells slots Z (F0 m pc ls st0) := by
  intro T hT X1
  obtain ⟨v, st₀, t, T', L, h0, X', hL, e1, e2, ⟨⟨v', σ, hv, hq, hp⟩, hz, hk⟩, st⟩ := hr T hT X1
  cases hv
  rw [h0] at hz hk
  obtain ⟨t2, a1, b1⟩ := kk v σ T'.heap (locs ++ L) hq (by rw [e1]; exact hp)
    ⟨Nat.le_trans hS.1 (by rw [e1]; exact hz), fun q h1 h2 => by rw [e1, hk q (Nat.lt_of_lt_of_le h1 hS.1) (fun z => h2 (hA q z))]; exact hS.2.1 q h1 h2, fun q hq => by
      rcases List.mem_append.mp hq with h | h
      · exact hS.2.2 q h
      · exact hA _ (hL q h)⟩ T' rfl X'
  exact ⟨t2, st t2 a1, b1⟩
theorem av_free {X : av_X} {A : Nat → Prop} {σ : av_S} {H0 H : Heap} {locs : List Loc} (hD : va_D A (av_w X σ)) (hS : va_S A H0 H locs) (hA : ∀ q, H0.size ≤ q → A q) : ∀ q, va_A (av_w X σ) H.size q → A q := by
  intro q h
  rcases h with ⟨k, e, h⟩ | h
  · exact hD.2 k (q, e) h
  · exact hA q (Nat.le_trans hS.1 h)
/-- what a callee is: its name, code and number of parameters are as the tables have them -/
def av_Y (y : MethodName) (cc : ByteArray) (nL : Nat) (ret : Option FieldType) (n : Nat) : Prop := Cond.code y cc nL ret ∈ wG ∧ Cond.initialized y.cls ∈ wG ∧ (y.cls ≠ "java/lang/invoke/MethodHandle" ∧ y.cls ≠ "java/lang/invoke/VarHandle" ∧ (parseMethodDescriptor y.desc).map (fun d => d.parameters.length) = some n) ∧ plainName y.cls = true ∧ nL ≤ 21
def av_Yv (y : MethodName) (cc : ByteArray) (nL : Nat) (ret : Option FieldType) (n : Nat) : Prop := av_Y y cc nL ret n ∧ Cond.instanceMethod y ∈ wG ∧ Cond.selects y.cls y y ∈ wG
def av_Ys (y : MethodName) (cc : ByteArray) (nL : Nat) (ret : Option FieldType) (n : Nat) : Prop := av_Y y cc nL ret n ∧ Cond.static y ∈ wG
theorem av_Y_good {y : MethodName} {cc : ByteArray} {nL n : Nat} {ret : Option FieldType} (h : av_Y y cc nL ret n) : GoodIn wG (.code y cc nL ret :: wG) := wG_good (fun w hw => by
  rcases List.mem_cons.mp hw with e | e
  · rw [e]; exact h.1
  · exact e)
def av_ml (own : String) (index : Nat) (y : MethodName) : Prop := Cond.methodLink own index y ∈ wG
def av_mlN (own : String) (index : Nat) (y : MethodName) : Prop := ∃ host, Cond.methodLinkNest own index y host ∈ wN
section AvCalls
variable {l : Launch} {own : String} {cc : ByteArray} {nL : Nat} {ret : Option FieldType} {E : av_Ex} {d pc : Nat} {lv lv' : List (Nat × Value)} {st : List Value} {σ σ' : av_S} {Q : Option Value → av_S → Prop}
variable {y : MethodName} {cy : ByteArray} {nY n d' index : Nat} {rY : Option FieldType} {vs stk : List Value} {r : Option Value}
theorem av_rooms {X : av_X} {p : Program} {e : Env} {R : Room} {s : State} {m : MethodId} {args : Array Value} {below : List Frame} {meth : Method} {c : Code} {A : Nat → Prop} {cells slots : Nat} {Z : State → Prop} (F : av_F l own cc nL ret E d Q X p e R s m args below meth c A cells slots Z) (hdd : d' + 1 ≤ d) (hn : nY ≤ 21) : (av_rm d').frames + 1 ≤ R.frames ∧ 8 + (nY + 11) + (av_rm d').locals ≤ R.locals := by
  have h := F.2.2.2.2.2.2.2.2.2.2.2.1
  have h2 : (av_rm d').frames = d' := rfl
  have h3 : (av_rm d').locals = 40 * d' := rfl
  rw [h2, h3]
  omega
theorem av_pre {X : av_X} {p : Program} {e : Env} {R : Room} {s : State} {m : MethodId} {args : Array Value} {below : List Frame} {meth : Method} {c : Code} {A : Nat → Prop} {cells slots : Nat} {Z : State → Prop} {H : Heap} {locs : List Loc} (F : av_F l own cc nL ret E d Q X p e R s m args below meth c A cells slots Z) (hP : va_P X.1 vwCl (av_w X σ) H) (hS : va_S A s.heap H locs) (av : List Value) : ∀ U : State, U.heap = H → s.WarmedH U.vm → va_Pc av (av_B X σ H.size) av.toArray U := by
  intro U hU hW
  exact ⟨rfl, by rw [hU], by rw [hU]; exact hP, va_K.moved hW.alike F.2.2.2.2.2.2.2.2.1, (F.2.2.2.2.2.2.2.2.2.2.1 σ).weaken (fun _ _ _ _ => trivial), fun w hw => av_N_warm (List.mem_filter.mp hw).2 hW (F.2.2.2.2.2.1 w hw), av_G_go hW hU hS (av_free (F.2.2.2.2.2.2.2.2.2.2.1 σ) hS F.2.2.2.2.2.2.2.2.2.1) F.2.2.2.2.2.2.1⟩
theorem ev_callS0 (hd : decode cc pc = .ok (.invokestatic index, 3)) (hL : av_ml own index y ∨ av_mlN own index y) (hY : av_Ys y cy nY rY n) (hM : av_M l y.cls cy nY rY d' vs σ r σ') (hdd : d' + 1 ≤ d) (hvl : (lg_sl vs).length ≤ nY) (hn : vs.length = n) (hst : stk = vs.reverse ++ st) (hrm : (st.map fun v => v.category).sum ≤ 8)
    (kk : ∀ X : av_X, ∀ (p : Program) (e : Env) (R : Room) (s : State) (m : MethodId) (args : Array Value) (below : List Frame) (meth : Method) (c : Code) (A : Nat → Prop) (cells slots : Nat) (Z : State → Prop), av_F l own cc nL ret E d Q X p e R s m args below meth c A cells slots Z → ∀ (H : Heap) (locs : List Loc) (ls : Array Slot), va_P X.1 vwCl (av_w X σ') H → va_S A s.heap H locs → lv_has ls nL (av_l X lv) → W p l e R s m args below meth c H locs cells slots Z (F0 m (pc + 3) ls (r.toList ++ st.map (av_t X)))) : av_Ev l own cc nL ret E d pc lv stk σ Q := by
  intro X p e R s m args below meth c A cells slots Z F H locs ls hP hS hl
  subst hst
  have hMet := av_met hY.1.2.2.2.1 rfl hvl (hM (fun v τ => v = r ∧ τ = σ') ⟨rfl, rfl⟩) X H.size
  have hR := av_rooms F hdd hY.1.2.2.2.2
  have hpre : PreS s H (va_Pc (vs.map (av_t X)) (av_B X σ H.size)) (vs.map (av_t X)) := ⟨av_blind, av_pre F hP hS _⟩
  have hstk : (F0 m pc ls ((vs.reverse ++ st).map (av_t X))).stack = (vs.map (av_t X)).reverse ++ st.map (av_t X) := by
    show (vs.reverse ++ st).map (av_t X) = _
    rw [List.map_append, List.map_reverse]
  have hfin : ∀ (v : Option Value) (τ : av_S) (H1 : Heap) (locs1 : List Loc), (v = r ∧ τ = σ') → va_P X.1 vwCl (av_w X τ) H1 → va_S A s.heap H1 locs1 → W p l e R s m args below meth c H1 locs1 cells slots Z (F0 m (pc + 3) ls (v.toList ++ st.map (av_t X))) := by
    intro v τ H1 locs1 hq h1 h2
    obtain ⟨rfl, rfl⟩ := hq
    exact kk X p e R s m args below meth c A cells slots Z F H1 locs1 ls h1 h2 hl
  have hcells : cells + 0 ≤ R.cells ∧ slots + 0 ≤ R.slots := F.2.2.2.2.2.2.2.2.2.2.2.2.1
  rcases hL with hL | ⟨host, hL⟩
  · refine av_callW (va_runS (As := vs.map (av_t X)) (rest := st.map (av_t X)) (n := n) (bytes := cy) (maxL := nY) (ret := rY) (nL := nL) (own := own) (index := index) (Ts := wG) ⟨F.1, F.2.1, F.2.2.1, F.2.2.2.1, F.2.2.2.2.1⟩ hMet ⟨callB_of n F.2.2.2.2.1 (av_Y_good hY.1) rfl rfl rfl (F.2.2.2.2.1 _ hY.1.2.1) (F.2.2.2.2.1 _ hL) hY.1.2.2.1 hR, F.2.2.2.2.1 _ hY.2⟩ hpre rfl (by rw [List.length_map]; exact hn) hl.1 hstk (by rw [av_cats]; show 2 * 0 + _ ≤ 8; omega) hd hcells) hS (av_free (F.2.2.2.2.2.2.2.2.2.2.1 σ) hS F.2.2.2.2.2.2.2.2.2.1) hfin
  · refine av_callW (va_runSN (As := vs.map (av_t X)) (rest := st.map (av_t X)) (n := n) (bytes := cy) (maxL := nY) (ret := rY) (nL := nL) (own := own) (host := host) (index := index) (Ts := wG) ⟨F.1, F.2.1, F.2.2.1, F.2.2.2.1, F.2.2.2.2.1⟩ hMet ⟨va_cnB n F.2.2.2.2.1 (av_Y_good hY.1) rfl rfl rfl (F.2.2.2.2.2.1 _ hL) (F.2.2.2.2.1 _ hY.1.2.1) hY.1.2.2.1 hR, F.2.2.2.2.1 _ hY.2, trivial⟩ hpre rfl (by rw [List.length_map]; exact hn) hl.1 hstk (by rw [av_cats]; show 2 * 0 + _ ≤ 8; omega) hd hcells) hS (av_free (F.2.2.2.2.2.2.2.2.2.2.1 σ) hS F.2.2.2.2.2.2.2.2.2.1) hfin
theorem ev_callV0 {k ci N : Nat} {T : u_T} {fl : List (Option Nat)} (hd : decode cc pc = .ok (.invokevirtual index, 3)) (hL : av_ml own index y) (hY : av_Yv y cy nY rY n) (hM : av_M l y.cls cy nY rY d' (.ref k :: vs) σ r σ') (hdd : d' + 1 ≤ d) (hvl : (lg_sl (.ref k :: vs)).length ≤ nY) (hk : k < 86) (hs : av_sh k = .inl (ci, fl)) (hci : vwCl[ci]? = some (y.cls, T, N)) (hn : vs.length = n) (hst : stk = vs.reverse ++ .ref k :: st) (hrm : (st.map fun v => v.category).sum ≤ 8)
    (kk : ∀ X : av_X, ∀ (p : Program) (e : Env) (R : Room) (s : State) (m : MethodId) (args : Array Value) (below : List Frame) (meth : Method) (c : Code) (A : Nat → Prop) (cells slots : Nat) (Z : State → Prop), av_F l own cc nL ret E d Q X p e R s m args below meth c A cells slots Z → ∀ (H : Heap) (locs : List Loc) (ls : Array Slot), va_P X.1 vwCl (av_w X σ') H → va_S A s.heap H locs → lv_has ls nL (av_l X lv) → W p l e R s m args below meth c H locs cells slots Z (F0 m (pc + 3) ls (r.toList ++ st.map (av_t X)))) : av_Ev l own cc nL ret E d pc lv stk σ Q := by
  intro X p e R s m args below meth c A cells slots Z F H locs ls hP hS hl
  subst hst
  have hMet := av_met hY.1.2.2.2.1 rfl hvl (hM (fun v τ => v = r ∧ τ = σ') ⟨rfl, rfl⟩) X H.size
  have hR := av_rooms F hdd hY.1.2.2.2.2
  have hpre : PreV s H y.cls (X.2.1 k) (va_Pc ((Value.ref k :: vs).map (av_t X)) (av_B X σ H.size)) (vs.map (av_t X)) := ⟨av_blind, va_recv F.2.2.2.2.2.2.2.2.1 hP hci (av_sh_in hk hs), av_pre F hP hS _⟩
  have hstk : (F0 m pc ls ((vs.reverse ++ .ref k :: st).map (av_t X))).stack = (vs.map (av_t X)).reverse ++ .ref (X.2.1 k) :: st.map (av_t X) := by
    show (vs.reverse ++ .ref k :: st).map (av_t X) = _
    rw [List.map_append, List.map_reverse]
    rfl
  have hcells : cells + 0 ≤ R.cells ∧ slots + 0 ≤ R.slots := F.2.2.2.2.2.2.2.2.2.2.2.2.1
  refine av_callW (va_runV (As := vs.map (av_t X)) (rest := st.map (av_t X)) (n := n) (C := y.cls) (bytes := cy) (maxL := nY) (ret := rY) (nL := nL) (own := own) (index := index) (Ts := wG) ⟨F.1, F.2.1, F.2.2.1, F.2.2.2.1, F.2.2.2.2.1⟩ hMet ⟨callB_of n F.2.2.2.2.1 (av_Y_good hY.1) rfl rfl rfl (F.2.2.2.2.1 _ hY.1.2.1) (F.2.2.2.2.1 _ hL) hY.1.2.2.1 hR, F.2.2.2.2.1 _ hY.2.1, F.2.2.2.2.1 _ hY.2.2⟩ hpre rfl (by rw [List.length_map]; exact hn) hl.1 hstk (by rw [av_cats]; show 2 * 0 + _ ≤ 8; omega) hd hcells) hS (av_free (F.2.2.2.2.2.2.2.2.2.2.1 σ) hS F.2.2.2.2.2.2.2.2.2.1) (fun v τ H1 locs1 hq h1 h2 => ?_)
  obtain ⟨rfl, rfl⟩ := hq
  exact kk X p e R s m args below meth c A cells slots Z F H1 locs1 ls h1 h2 hl
theorem ev_callSi {x : Int32} (hd : decode cc pc = .ok (.invokestatic index, 3)) (hL : av_ml own index y ∨ av_mlN own index y) (hY : av_Ys y cy nY rY n) (vs : List Value) (hM : av_M l y.cls cy nY rY d' vs σ (some (.int x)) σ') (hdd : d' + 1 ≤ d) (hvl : (lg_sl vs).length ≤ nY) (hn : vs.length = n) (hst : stk = vs.reverse ++ st) (hrm : (st.map fun v => v.category).sum ≤ 8) (k : av_Ev l own cc nL ret E d (pc + 3) lv (.int x :: st) σ' Q) : av_Ev l own cc nL ret E d pc lv stk σ Q := ev_callS0 hd hL hY hM hdd hvl hn hst hrm k
theorem ev_callSv (hd : decode cc pc = .ok (.invokestatic index, 3)) (hL : av_ml own index y ∨ av_mlN own index y) (hY : av_Ys y cy nY rY n) (vs : List Value) (hM : av_M l y.cls cy nY rY d' vs σ none σ') (hdd : d' + 1 ≤ d) (hvl : (lg_sl vs).length ≤ nY) (hn : vs.length = n) (hst : stk = vs.reverse ++ st) (hrm : (st.map fun v => v.category).sum ≤ 8) (k : av_Ev l own cc nL ret E d (pc + 3) lv st σ' Q) : av_Ev l own cc nL ret E d pc lv stk σ Q := ev_callS0 hd hL hY hM hdd hvl hn hst hrm k
theorem ev_callVi {k ci N : Nat} {T : u_T} {fl : List (Option Nat)} {x : Int32} (hd : decode cc pc = .ok (.invokevirtual index, 3)) (hL : av_ml own index y) (hY : av_Yv y cy nY rY n) (vs : List Value) (hM : av_M l y.cls cy nY rY d' (.ref k :: vs) σ (some (.int x)) σ') (hdd : d' + 1 ≤ d) (hvl : (lg_sl (.ref k :: vs)).length ≤ nY) (hk : k < 86) (hs : av_sh k = .inl (ci, fl)) (hci : vwCl[ci]? = some (y.cls, T, N)) (hn : vs.length = n) (hst : stk = vs.reverse ++ .ref k :: st) (hrm : (st.map fun v => v.category).sum ≤ 8) (kk : av_Ev l own cc nL ret E d (pc + 3) lv (.int x :: st) σ' Q) : av_Ev l own cc nL ret E d pc lv stk σ Q := ev_callV0 hd hL hY hM hdd hvl hk hs hci hn hst hrm kk
theorem ev_callVv {k ci N : Nat} {T : u_T} {fl : List (Option Nat)} (hd : decode cc pc = .ok (.invokevirtual index, 3)) (hL : av_ml own index y) (hY : av_Yv y cy nY rY n) (vs : List Value) (hM : av_M l y.cls cy nY rY d' (.ref k :: vs) σ none σ') (hdd : d' + 1 ≤ d) (hvl : (lg_sl (.ref k :: vs)).length ≤ nY) (hk : k < 86) (hs : av_sh k = .inl (ci, fl)) (hci : vwCl[ci]? = some (y.cls, T, N)) (hn : vs.length = n) (hst : stk = vs.reverse ++ .ref k :: st) (hrm : (st.map fun v => v.category).sum ≤ 8) (kk : av_Ev l own cc nL ret E d (pc + 3) lv st σ' Q) : av_Ev l own cc nL ret E d pc lv stk σ Q := ev_callV0 hd hL hY hM hdd hvl hk hs hci hn hst hrm kk
theorem av_M.mono {vs : List Value} (hdd : d' ≤ d) (h : av_M l own cc nL ret d' vs σ r σ') : av_M l own cc nL ret d vs σ r σ' := fun Q hQ => ev_mono hdd (h Q hQ)
end AvCalls
end
section
/-! ===== the tables' words, by their places ===== -/
theorem Y_J7_fill_53178 : av_Ys yJ7_fill_53178 cJ7_fill_53178 4 none 2 := ⟨⟨wG_of 72 (by decide +kernel) rfl, wG_of 42 (by decide +kernel) rfl, by decide +kernel, by decide +kernel, by decide⟩, wG_of 71 (by decide +kernel) rfl⟩
theorem Y_X5_createServers : av_Yv yX5_createServers cX5_createServers 3 (some .int) 1 := ⟨⟨wG_of 187 (by decide +kernel) rfl, wG_of 40 (by decide +kernel) rfl, by decide +kernel, by decide +kernel, by decide⟩, wG_of 185 (by decide +kernel) rfl, wG_of 186 (by decide +kernel) rfl⟩
theorem Y_X4_countUsers : av_Yv yX4_countUsers cX4_countUsers 5 (some .int) 1 := ⟨⟨wG_of 191 (by decide +kernel) rfl, wG_of 41 (by decide +kernel) rfl, by decide +kernel, by decide +kernel, by decide⟩, wG_of 189 (by decide +kernel) rfl, wG_of 190 (by decide +kernel) rfl⟩
theorem Y_X5_hasBit : av_Ys yX5_hasBit cX5_hasBit 2 (some .boolean) 2 := ⟨⟨wG_of 194 (by decide +kernel) rfl, wG_of 40 (by decide +kernel) rfl, by decide +kernel, by decide +kernel, by decide⟩, wG_of 193 (by decide +kernel) rfl⟩
theorem Y_X4_hasUser : av_Yv yX4_hasUser cX4_hasUser 3 (some .boolean) 2 := ⟨⟨wG_of 198 (by decide +kernel) rfl, wG_of 41 (by decide +kernel) rfl, by decide +kernel, by decide +kernel, by decide⟩, wG_of 196 (by decide +kernel) rfl, wG_of 197 (by decide +kernel) rfl⟩
theorem Y_X4_userCell : av_Ys yX4_userCell cX4_userCell 2 (some .int) 2 := ⟨⟨wG_of 201 (by decide +kernel) rfl, wG_of 41 (by decide +kernel) rfl, by decide +kernel, by decide +kernel, by decide⟩, wG_of 200 (by decide +kernel) rfl⟩
theorem Y_X0_keep : av_Yv yX0_keep cX0_keep 3 none 1 := ⟨⟨wG_of 205 (by decide +kernel) rfl, wG_of 43 (by decide +kernel) rfl, by decide +kernel, by decide +kernel, by decide⟩, wG_of 203 (by decide +kernel) rfl, wG_of 204 (by decide +kernel) rfl⟩
theorem Y_X4_copyFrom : av_Yv yX4_copyFrom cX4_copyFrom 2 none 1 := ⟨⟨wG_of 209 (by decide +kernel) rfl, wG_of 41 (by decide +kernel) rfl, by decide +kernel, by decide +kernel, by decide⟩, wG_of 207 (by decide +kernel) rfl, wG_of 208 (by decide +kernel) rfl⟩
theorem Y_X4_reset : av_Yv yX4_reset cX4_reset 2 none 1 := ⟨⟨wG_of 219 (by decide +kernel) rfl, wG_of 41 (by decide +kernel) rfl, by decide +kernel, by decide +kernel, by decide⟩, wG_of 217 (by decide +kernel) rfl, wG_of 218 (by decide +kernel) rfl⟩
theorem Y_X5_connect : av_Yv yX5_connect cX5_connect 4 (some .int) 2 := ⟨⟨wG_of 223 (by decide +kernel) rfl, wG_of 40 (by decide +kernel) rfl, by decide +kernel, by decide +kernel, by decide⟩, wG_of 221 (by decide +kernel) rfl, wG_of 222 (by decide +kernel) rfl⟩
theorem Y_X4_hasServers : av_Yv yX4_hasServers cX4_hasServers 3 (some .boolean) 2 := ⟨⟨wG_of 227 (by decide +kernel) rfl, wG_of 41 (by decide +kernel) rfl, by decide +kernel, by decide +kernel, by decide⟩, wG_of 225 (by decide +kernel) rfl, wG_of 226 (by decide +kernel) rfl⟩
theorem Y_X4_hasServer : av_Yv yX4_hasServer cX4_hasServer 2 (some .boolean) 1 := ⟨⟨wG_of 231 (by decide +kernel) rfl, wG_of 41 (by decide +kernel) rfl, by decide +kernel, by decide +kernel, by decide⟩, wG_of 229 (by decide +kernel) rfl, wG_of 230 (by decide +kernel) rfl⟩
theorem Y_X4_shareNetwork : av_Yv yX4_shareNetwork cX4_shareNetwork 3 (some .boolean) 2 := ⟨⟨wG_of 235 (by decide +kernel) rfl, wG_of 41 (by decide +kernel) rfl, by decide +kernel, by decide +kernel, by decide⟩, wG_of 233 (by decide +kernel) rfl, wG_of 234 (by decide +kernel) rfl⟩
theorem Y_X4_networkOf : av_Yv yX4_networkOf cX4_networkOf 4 (some .int) 1 := ⟨⟨wG_of 239 (by decide +kernel) rfl, wG_of 41 (by decide +kernel) rfl, by decide +kernel, by decide +kernel, by decide⟩, wG_of 237 (by decide +kernel) rfl, wG_of 238 (by decide +kernel) rfl⟩
theorem Y_X4_withNeighbours : av_Yv yX4_withNeighbours cX4_withNeighbours 4 (some .int) 1 := ⟨⟨wG_of 243 (by decide +kernel) rfl, wG_of 41 (by decide +kernel) rfl, by decide +kernel, by decide +kernel, by decide⟩, wG_of 241 (by decide +kernel) rfl, wG_of 242 (by decide +kernel) rfl⟩
theorem Y_X1_countKills : av_Ys yX1_countKills cX1_countKills 9 (some .int) 3 := ⟨⟨wG_of 246 (by decide +kernel) rfl, wG_of 49 (by decide +kernel) rfl, by decide +kernel, by decide +kernel, by decide⟩, wG_of 245 (by decide +kernel) rfl⟩
theorem Y_X4_timeOfNick : av_Yv yX4_timeOfNick cX4_timeOfNick 4 (some .int) 2 := ⟨⟨wG_of 251 (by decide +kernel) rfl, wG_of 41 (by decide +kernel) rfl, by decide +kernel, by decide +kernel, by decide⟩, wG_of 249 (by decide +kernel) rfl, wG_of 250 (by decide +kernel) rfl⟩
theorem Y_X4_homeIn : av_Yv yX4_homeIn cX4_homeIn 4 (some .int) 2 := ⟨⟨wG_of 255 (by decide +kernel) rfl, wG_of 41 (by decide +kernel) rfl, by decide +kernel, by decide +kernel, by decide⟩, wG_of 253 (by decide +kernel) rfl, wG_of 254 (by decide +kernel) rfl⟩
theorem Y_X4_timeOfUser : av_Yv yX4_timeOfUser cX4_timeOfUser 3 (some .int) 2 := ⟨⟨wG_of 259 (by decide +kernel) rfl, wG_of 41 (by decide +kernel) rfl, by decide +kernel, by decide +kernel, by decide⟩, wG_of 257 (by decide +kernel) rfl, wG_of 258 (by decide +kernel) rfl⟩
theorem Y_X1_survivor : av_Ys yX1_survivor cX1_survivor 2 (some .int) 2 := ⟨⟨wG_of 262 (by decide +kernel) rfl, wG_of 49 (by decide +kernel) rfl, by decide +kernel, by decide +kernel, by decide⟩, wG_of 261 (by decide +kernel) rfl⟩
theorem Y_X1_settleNicks : av_Ys yX1_settleNicks cX1_settleNicks 8 none 3 := ⟨⟨wG_of 269 (by decide +kernel) rfl, wG_of 49 (by decide +kernel) rfl, by decide +kernel, by decide +kernel, by decide⟩, wG_of 268 (by decide +kernel) rfl⟩
theorem Y_X1_settleCollision : av_Ys yX1_settleCollision cX1_settleCollision 7 none 4 := ⟨⟨wG_of 273 (by decide +kernel) rfl, wG_of 49 (by decide +kernel) rfl, by decide +kernel, by decide +kernel, by decide⟩, wG_of 272 (by decide +kernel) rfl⟩
theorem Y_X4_removeUser : av_Yv yX4_removeUser cX4_removeUser 4 none 2 := ⟨⟨wG_of 278 (by decide +kernel) rfl, wG_of 41 (by decide +kernel) rfl, by decide +kernel, by decide +kernel, by decide⟩, wG_of 276 (by decide +kernel) rfl, wG_of 277 (by decide +kernel) rfl⟩
theorem Y_X4_removeMember : av_Yv yX4_removeMember cX4_removeMember 5 none 3 := ⟨⟨wG_of 282 (by decide +kernel) rfl, wG_of 41 (by decide +kernel) rfl, by decide +kernel, by decide +kernel, by decide⟩, wG_of 280 (by decide +kernel) rfl, wG_of 281 (by decide +kernel) rfl⟩
theorem Y_X4_channelCell : av_Ys yX4_channelCell cX4_channelCell 2 (some .int) 2 := ⟨⟨wG_of 285 (by decide +kernel) rfl, wG_of 41 (by decide +kernel) rfl, by decide +kernel, by decide +kernel, by decide⟩, wG_of 284 (by decide +kernel) rfl⟩
theorem Y_X5_withBit : av_Ys yX5_withBit cX5_withBit 3 (some .int) 3 := ⟨⟨wG_of 288 (by decide +kernel) rfl, wG_of 40 (by decide +kernel) rfl, by decide +kernel, by decide +kernel, by decide⟩, wG_of 287 (by decide +kernel) rfl⟩
theorem Y_X1_settleChannels : av_Ys yX1_settleChannels cX1_settleChannels 6 none 3 := ⟨⟨wG_of 291 (by decide +kernel) rfl, wG_of 49 (by decide +kernel) rfl, by decide +kernel, by decide +kernel, by decide⟩, wG_of 290 (by decide +kernel) rfl⟩
theorem Y_X4_hasChannel : av_Yv yX4_hasChannel cX4_hasChannel 3 (some .boolean) 2 := ⟨⟨wG_of 295 (by decide +kernel) rfl, wG_of 41 (by decide +kernel) rfl, by decide +kernel, by decide +kernel, by decide⟩, wG_of 293 (by decide +kernel) rfl, wG_of 294 (by decide +kernel) rfl⟩
theorem Y_X4_membersIn : av_Yv yX4_membersIn cX4_membersIn 3 (some .int) 2 := ⟨⟨wG_of 299 (by decide +kernel) rfl, wG_of 41 (by decide +kernel) rfl, by decide +kernel, by decide +kernel, by decide⟩, wG_of 297 (by decide +kernel) rfl, wG_of 298 (by decide +kernel) rfl⟩
theorem Y_X4_unionOf : av_Ys yX4_unionOf cX4_unionOf 5 (some .int) 3 := ⟨⟨wG_of 302 (by decide +kernel) rfl, wG_of 41 (by decide +kernel) rfl, by decide +kernel, by decide +kernel, by decide⟩, wG_of 301 (by decide +kernel) rfl⟩
theorem Y_X1_uniteChannels : av_Ys yX1_uniteChannels cX1_uniteChannels 7 none 4 := ⟨⟨wG_of 305 (by decide +kernel) rfl, wG_of 49 (by decide +kernel) rfl, by decide +kernel, by decide +kernel, by decide⟩, wG_of 304 (by decide +kernel) rfl⟩
theorem Y_X4_timeOfChannel : av_Yv yX4_timeOfChannel cX4_timeOfChannel 3 (some .int) 2 := ⟨⟨wG_of 309 (by decide +kernel) rfl, wG_of 41 (by decide +kernel) rfl, by decide +kernel, by decide +kernel, by decide⟩, wG_of 307 (by decide +kernel) rfl, wG_of 308 (by decide +kernel) rfl⟩
theorem Y_X1_overruleChannel : av_Ys yX1_overruleChannel cX1_overruleChannel 5 none 4 := ⟨⟨wG_of 312 (by decide +kernel) rfl, wG_of 49 (by decide +kernel) rfl, by decide +kernel, by decide +kernel, by decide⟩, wG_of 311 (by decide +kernel) rfl⟩
theorem Y_X4_operatorsIn : av_Yv yX4_operatorsIn cX4_operatorsIn 3 (some .int) 2 := ⟨⟨wG_of 316 (by decide +kernel) rfl, wG_of 41 (by decide +kernel) rfl, by decide +kernel, by decide +kernel, by decide⟩, wG_of 314 (by decide +kernel) rfl, wG_of 315 (by decide +kernel) rfl⟩
theorem Y_J6_bitCount_0f7a4 : av_Ys yJ6_bitCount_0f7a4 cJ6_bitCount_0f7a4 1 (some .int) 1 := ⟨⟨wG_of 319 (by decide +kernel) rfl, wG_of 50 (by decide +kernel) rfl, by decide +kernel, by decide +kernel, by decide⟩, wG_of 318 (by decide +kernel) rfl⟩
theorem Y_X4_modesOfChannel : av_Yv yX4_modesOfChannel cX4_modesOfChannel 3 (some .int) 2 := ⟨⟨wG_of 326 (by decide +kernel) rfl, wG_of 41 (by decide +kernel) rfl, by decide +kernel, by decide +kernel, by decide⟩, wG_of 324 (by decide +kernel) rfl, wG_of 325 (by decide +kernel) rfl⟩
theorem Y_X4_setOperators : av_Yv yX4_setOperators cX4_setOperators 6 none 3 := ⟨⟨wG_of 330 (by decide +kernel) rfl, wG_of 41 (by decide +kernel) rfl, by decide +kernel, by decide +kernel, by decide⟩, wG_of 328 (by decide +kernel) rfl, wG_of 329 (by decide +kernel) rfl⟩
theorem Y_X1_tellOfChannel : av_Ys yX1_tellOfChannel cX1_tellOfChannel 4 none 4 := ⟨⟨wG_of 333 (by decide +kernel) rfl, wG_of 49 (by decide +kernel) rfl, by decide +kernel, by decide +kernel, by decide⟩, wG_of 332 (by decide +kernel) rfl⟩
theorem Y_X4_describeChannel : av_Yv yX4_describeChannel cX4_describeChannel 6 none 4 := ⟨⟨wG_of 337 (by decide +kernel) rfl, wG_of 41 (by decide +kernel) rfl, by decide +kernel, by decide +kernel, by decide⟩, wG_of 335 (by decide +kernel) rfl, wG_of 336 (by decide +kernel) rfl⟩
theorem Y_X4_link : av_Yv yX4_link cX4_link 3 none 2 := ⟨⟨wG_of 341 (by decide +kernel) rfl, wG_of 41 (by decide +kernel) rfl, by decide +kernel, by decide +kernel, by decide⟩, wG_of 339 (by decide +kernel) rfl, wG_of 340 (by decide +kernel) rfl⟩
theorem Y_X5_disconnect : av_Yv yX5_disconnect cX5_disconnect 3 (some .int) 2 := ⟨⟨wG_of 345 (by decide +kernel) rfl, wG_of 40 (by decide +kernel) rfl, by decide +kernel, by decide +kernel, by decide⟩, wG_of 343 (by decide +kernel) rfl, wG_of 344 (by decide +kernel) rfl⟩
theorem Y_X4_areLinked : av_Yv yX4_areLinked cX4_areLinked 3 (some .boolean) 2 := ⟨⟨wG_of 349 (by decide +kernel) rfl, wG_of 41 (by decide +kernel) rfl, by decide +kernel, by decide +kernel, by decide⟩, wG_of 347 (by decide +kernel) rfl, wG_of 348 (by decide +kernel) rfl⟩
theorem Y_X4_unlink : av_Yv yX4_unlink cX4_unlink 3 none 2 := ⟨⟨wG_of 353 (by decide +kernel) rfl, wG_of 41 (by decide +kernel) rfl, by decide +kernel, by decide +kernel, by decide⟩, wG_of 351 (by decide +kernel) rfl, wG_of 352 (by decide +kernel) rfl⟩
theorem Y_X5_advance : av_Yv yX5_advance cX5_advance 2 (some .int) 1 := ⟨⟨wG_of 359 (by decide +kernel) rfl, wG_of 40 (by decide +kernel) rfl, by decide +kernel, by decide +kernel, by decide⟩, wG_of 357 (by decide +kernel) rfl, wG_of 358 (by decide +kernel) rfl⟩
theorem Y_X5_time : av_Yv yX5_time cX5_time 1 (some .int) 0 := ⟨⟨wG_of 363 (by decide +kernel) rfl, wG_of 40 (by decide +kernel) rfl, by decide +kernel, by decide +kernel, by decide⟩, wG_of 361 (by decide +kernel) rfl, wG_of 362 (by decide +kernel) rfl⟩
theorem Y_X5_hops : av_Yv yX5_hops cX5_hops 5 (some .int) 2 := ⟨⟨wG_of 367 (by decide +kernel) rfl, wG_of 40 (by decide +kernel) rfl, by decide +kernel, by decide +kernel, by decide⟩, wG_of 365 (by decide +kernel) rfl, wG_of 366 (by decide +kernel) rfl⟩
theorem Y_X5_signOn : av_Yv yX5_signOn cX5_signOn 4 (some .int) 2 := ⟨⟨wG_of 373 (by decide +kernel) rfl, wG_of 40 (by decide +kernel) rfl, by decide +kernel, by decide +kernel, by decide⟩, wG_of 371 (by decide +kernel) rfl, wG_of 372 (by decide +kernel) rfl⟩
theorem Y_X5_isNick : av_Ys yX5_isNick cX5_isNick 1 (some .boolean) 1 := ⟨⟨wG_of 377 (by decide +kernel) rfl, wG_of 40 (by decide +kernel) rfl, by decide +kernel, by decide +kernel, by decide⟩, wG_of 376 (by decide +kernel) rfl⟩
theorem Y_X4_addUser : av_Yv yX4_addUser cX4_addUser 3 none 2 := ⟨⟨wG_of 382 (by decide +kernel) rfl, wG_of 41 (by decide +kernel) rfl, by decide +kernel, by decide +kernel, by decide⟩, wG_of 380 (by decide +kernel) rfl, wG_of 381 (by decide +kernel) rfl⟩
theorem Y_X5_signOff : av_Yv yX5_signOff cX5_signOff 4 (some .int) 2 := ⟨⟨wG_of 386 (by decide +kernel) rfl, wG_of 40 (by decide +kernel) rfl, by decide +kernel, by decide +kernel, by decide⟩, wG_of 384 (by decide +kernel) rfl, wG_of 385 (by decide +kernel) rfl⟩
theorem Y_X4_countChannelsOf : av_Yv yX4_countChannelsOf cX4_countChannelsOf 5 (some .int) 2 := ⟨⟨wG_of 391 (by decide +kernel) rfl, wG_of 41 (by decide +kernel) rfl, by decide +kernel, by decide +kernel, by decide⟩, wG_of 389 (by decide +kernel) rfl, wG_of 390 (by decide +kernel) rfl⟩
theorem Y_X4_isMember : av_Yv yX4_isMember cX4_isMember 4 (some .boolean) 3 := ⟨⟨wG_of 395 (by decide +kernel) rfl, wG_of 41 (by decide +kernel) rfl, by decide +kernel, by decide +kernel, by decide⟩, wG_of 393 (by decide +kernel) rfl, wG_of 394 (by decide +kernel) rfl⟩
theorem Y_X5_changeNick : av_Yv yX5_changeNick cX5_changeNick 5 (some .int) 3 := ⟨⟨wG_of 400 (by decide +kernel) rfl, wG_of 40 (by decide +kernel) rfl, by decide +kernel, by decide +kernel, by decide⟩, wG_of 398 (by decide +kernel) rfl, wG_of 399 (by decide +kernel) rfl⟩
theorem Y_X4_renameUser : av_Yv yX4_renameUser cX4_renameUser 5 none 3 := ⟨⟨wG_of 405 (by decide +kernel) rfl, wG_of 41 (by decide +kernel) rfl, by decide +kernel, by decide +kernel, by decide⟩, wG_of 403 (by decide +kernel) rfl, wG_of 404 (by decide +kernel) rfl⟩
theorem Y_X4_addMember : av_Yv yX4_addMember cX4_addMember 5 none 3 := ⟨⟨wG_of 410 (by decide +kernel) rfl, wG_of 41 (by decide +kernel) rfl, by decide +kernel, by decide +kernel, by decide⟩, wG_of 408 (by decide +kernel) rfl, wG_of 409 (by decide +kernel) rfl⟩
theorem Y_X4_isOperator : av_Yv yX4_isOperator cX4_isOperator 4 (some .boolean) 3 := ⟨⟨wG_of 414 (by decide +kernel) rfl, wG_of 41 (by decide +kernel) rfl, by decide +kernel, by decide +kernel, by decide⟩, wG_of 412 (by decide +kernel) rfl, wG_of 413 (by decide +kernel) rfl⟩
theorem Y_X4_addOperator : av_Yv yX4_addOperator cX4_addOperator 5 none 3 := ⟨⟨wG_of 418 (by decide +kernel) rfl, wG_of 41 (by decide +kernel) rfl, by decide +kernel, by decide +kernel, by decide⟩, wG_of 416 (by decide +kernel) rfl, wG_of 417 (by decide +kernel) rfl⟩
theorem Y_X5_homeServer : av_Yv yX5_homeServer cX5_homeServer 4 (some .int) 2 := ⟨⟨wG_of 423 (by decide +kernel) rfl, wG_of 40 (by decide +kernel) rfl, by decide +kernel, by decide +kernel, by decide⟩, wG_of 421 (by decide +kernel) rfl, wG_of 422 (by decide +kernel) rfl⟩
theorem Y_X5_userTimestamp : av_Yv yX5_userTimestamp cX5_userTimestamp 4 (some .int) 2 := ⟨⟨wG_of 427 (by decide +kernel) rfl, wG_of 40 (by decide +kernel) rfl, by decide +kernel, by decide +kernel, by decide⟩, wG_of 425 (by decide +kernel) rfl, wG_of 426 (by decide +kernel) rfl⟩
theorem Y_X5_visibleUsers : av_Yv yX5_visibleUsers cX5_visibleUsers 2 (some .int) 1 := ⟨⟨wG_of 432 (by decide +kernel) rfl, wG_of 40 (by decide +kernel) rfl, by decide +kernel, by decide +kernel, by decide⟩, wG_of 430 (by decide +kernel) rfl, wG_of 431 (by decide +kernel) rfl⟩
theorem Y_X4_nicksIn : av_Yv yX4_nicksIn cX4_nicksIn 4 (some .int) 1 := ⟨⟨wG_of 436 (by decide +kernel) rfl, wG_of 41 (by decide +kernel) rfl, by decide +kernel, by decide +kernel, by decide⟩, wG_of 434 (by decide +kernel) rfl, wG_of 435 (by decide +kernel) rfl⟩
theorem Y_X5_join : av_Yv yX5_join cX5_join 5 (some .int) 3 := ⟨⟨wG_of 440 (by decide +kernel) rfl, wG_of 40 (by decide +kernel) rfl, by decide +kernel, by decide +kernel, by decide⟩, wG_of 438 (by decide +kernel) rfl, wG_of 439 (by decide +kernel) rfl⟩
theorem Y_X5_isChannel : av_Ys yX5_isChannel cX5_isChannel 1 (some .boolean) 1 := ⟨⟨wG_of 443 (by decide +kernel) rfl, wG_of 40 (by decide +kernel) rfl, by decide +kernel, by decide +kernel, by decide⟩, wG_of 442 (by decide +kernel) rfl⟩
theorem Y_X5_part : av_Yv yX5_part cX5_part 4 (some .int) 3 := ⟨⟨wG_of 453 (by decide +kernel) rfl, wG_of 40 (by decide +kernel) rfl, by decide +kernel, by decide +kernel, by decide⟩, wG_of 451 (by decide +kernel) rfl, wG_of 452 (by decide +kernel) rfl⟩
theorem Y_X5_leaveChannel : av_Yv yX5_leaveChannel cX5_leaveChannel 4 (some .int) 3 := ⟨⟨wG_of 457 (by decide +kernel) rfl, wG_of 40 (by decide +kernel) rfl, by decide +kernel, by decide +kernel, by decide⟩, wG_of 456 (by decide +kernel) rfl, wG_of 0 (by decide +kernel) rfl⟩
theorem Y_X5_kick : av_Yv yX5_kick cX5_kick 6 (some .int) 4 := ⟨⟨wG_of 462 (by decide +kernel) rfl, wG_of 40 (by decide +kernel) rfl, by decide +kernel, by decide +kernel, by decide⟩, wG_of 460 (by decide +kernel) rfl, wG_of 461 (by decide +kernel) rfl⟩
theorem Y_X5_appendCharacter : av_Yv yX5_appendCharacter cX5_appendCharacter 2 (some .int) 1 := ⟨⟨wG_of 467 (by decide +kernel) rfl, wG_of 40 (by decide +kernel) rfl, by decide +kernel, by decide +kernel, by decide⟩, wG_of 465 (by decide +kernel) rfl, wG_of 466 (by decide +kernel) rfl⟩
theorem Y_X2_isFull : av_Yv yX2_isFull cX2_isFull 1 (some .boolean) 0 := ⟨⟨wG_of 471 (by decide +kernel) rfl, wG_of 44 (by decide +kernel) rfl, by decide +kernel, by decide +kernel, by decide⟩, wG_of 469 (by decide +kernel) rfl, wG_of 470 (by decide +kernel) rfl⟩
theorem Y_X2_add : av_Yv yX2_add cX2_add 2 none 1 := ⟨⟨wG_of 475 (by decide +kernel) rfl, wG_of 44 (by decide +kernel) rfl, by decide +kernel, by decide +kernel, by decide⟩, wG_of 473 (by decide +kernel) rfl, wG_of 474 (by decide +kernel) rfl⟩
theorem Y_X5_clearText : av_Yv yX5_clearText cX5_clearText 2 (some .int) 0 := ⟨⟨wG_of 480 (by decide +kernel) rfl, wG_of 40 (by decide +kernel) rfl, by decide +kernel, by decide +kernel, by decide⟩, wG_of 478 (by decide +kernel) rfl, wG_of 479 (by decide +kernel) rfl⟩
theorem Y_X2_empty : av_Yv yX2_empty cX2_empty 1 none 0 := ⟨⟨wG_of 484 (by decide +kernel) rfl, wG_of 44 (by decide +kernel) rfl, by decide +kernel, by decide +kernel, by decide⟩, wG_of 482 (by decide +kernel) rfl, wG_of 483 (by decide +kernel) rfl⟩
theorem Y_X5_applyModes : av_Yv yX5_applyModes cX5_applyModes 7 (some .int) 3 := ⟨⟨wG_of 488 (by decide +kernel) rfl, wG_of 40 (by decide +kernel) rfl, by decide +kernel, by decide +kernel, by decide⟩, wG_of 486 (by decide +kernel) rfl, wG_of 487 (by decide +kernel) rfl⟩
theorem Y_X2_errorOffset : av_Yv yX2_errorOffset cX2_errorOffset 4 (some .int) 1 := ⟨⟨wG_of 492 (by decide +kernel) rfl, wG_of 44 (by decide +kernel) rfl, by decide +kernel, by decide +kernel, by decide⟩, wG_of 490 (by decide +kernel) rfl, wG_of 491 (by decide +kernel) rfl⟩
theorem Y_X2_placeAfter : av_Ys yX2_placeAfter cX2_placeAfter 4 (some .int) 3 := ⟨⟨wG_of 495 (by decide +kernel) rfl, wG_of 44 (by decide +kernel) rfl, by decide +kernel, by decide +kernel, by decide⟩, wG_of 494 (by decide +kernel) rfl⟩
theorem Y_X2_isDigit : av_Ys yX2_isDigit cX2_isDigit 1 (some .boolean) 1 := ⟨⟨wG_of 498 (by decide +kernel) rfl, wG_of 44 (by decide +kernel) rfl, by decide +kernel, by decide +kernel, by decide⟩, wG_of 497 (by decide +kernel) rfl⟩
theorem Y_X2_isSign : av_Ys yX2_isSign cX2_isSign 1 (some .boolean) 1 := ⟨⟨wG_of 502 (by decide +kernel) rfl, wG_of 44 (by decide +kernel) rfl, by decide +kernel, by decide +kernel, by decide⟩, wG_of 501 (by decide +kernel) rfl⟩
theorem Y_J0_indexOf_0f7a4 : av_Yv yJ0_indexOf_0f7a4 cJ0_indexOf_0f7a4 2 (some .int) 1 := ⟨⟨wG_of 507 (by decide +kernel) rfl, wG_of 51 (by decide +kernel) rfl, by decide +kernel, by decide +kernel, by decide⟩, wG_of 505 (by decide +kernel) rfl, wG_of 506 (by decide +kernel) rfl⟩
theorem Y_J0_indexOf_7cf53 : av_Yv yJ0_indexOf_7cf53 cJ0_indexOf_7cf53 3 (some .int) 2 := ⟨⟨wG_of 511 (by decide +kernel) rfl, wG_of 51 (by decide +kernel) rfl, by decide +kernel, by decide +kernel, by decide⟩, wG_of 509 (by decide +kernel) rfl, wG_of 510 (by decide +kernel) rfl⟩
theorem Y_J0_isLatin1_aae02 : av_Yv yJ0_isLatin1_aae02 cJ0_isLatin1_aae02 1 (some .boolean) 0 := ⟨⟨wG_of 515 (by decide +kernel) rfl, wG_of 51 (by decide +kernel) rfl, by decide +kernel, by decide +kernel, by decide⟩, wG_of 513 (by decide +kernel) rfl, wG_of 514 (by decide +kernel) rfl⟩
theorem Y_J0_length_8abf5 : av_Yv yJ0_length_8abf5 cJ0_length_8abf5 1 (some .int) 0 := ⟨⟨wG_of 521 (by decide +kernel) rfl, wG_of 51 (by decide +kernel) rfl, by decide +kernel, by decide +kernel, by decide⟩, wG_of 519 (by decide +kernel) rfl, wG_of 520 (by decide +kernel) rfl⟩
theorem Y_J0_coder_7d493 : av_Yv yJ0_coder_7d493 cJ0_coder_7d493 1 (some .byte) 0 := ⟨⟨wG_of 525 (by decide +kernel) rfl, wG_of 51 (by decide +kernel) rfl, by decide +kernel, by decide +kernel, by decide⟩, wG_of 523 (by decide +kernel) rfl, wG_of 524 (by decide +kernel) rfl⟩
theorem Y_J1_indexOf_4cfef : av_Ys yJ1_indexOf_4cfef cJ1_indexOf_4cfef 4 (some .int) 4 := ⟨⟨wG_of 528 (by decide +kernel) rfl, wG_of 52 (by decide +kernel) rfl, by decide +kernel, by decide +kernel, by decide⟩, wG_of 527 (by decide +kernel) rfl⟩
theorem Y_J1_canEncode_9a6ad : av_Ys yJ1_canEncode_9a6ad cJ1_canEncode_9a6ad 1 (some .boolean) 1 := ⟨⟨wG_of 531 (by decide +kernel) rfl, wG_of 52 (by decide +kernel) rfl, by decide +kernel, by decide +kernel, by decide⟩, wG_of 530 (by decide +kernel) rfl⟩
theorem Y_J1_indexOfChar_4cfef : av_Ys yJ1_indexOfChar_4cfef cJ1_indexOfChar_4cfef 6 (some .int) 4 := ⟨⟨wG_of 536 (by decide +kernel) rfl, wG_of 52 (by decide +kernel) rfl, by decide +kernel, by decide +kernel, by decide⟩, wG_of 535 (by decide +kernel) rfl⟩
theorem Y_J2_indexOf_4cfef : av_Ys yJ2_indexOf_4cfef cJ2_indexOf_4cfef 4 (some .int) 4 := ⟨⟨wG_of 539 (by decide +kernel) rfl, wG_of 53 (by decide +kernel) rfl, by decide +kernel, by decide +kernel, by decide⟩, wG_of 538 (by decide +kernel) rfl⟩
theorem Y_J2_indexOfChar_4cfef : av_Ys yJ2_indexOfChar_4cfef cJ2_indexOfChar_4cfef 4 (some .int) 4 := ⟨⟨wG_of 545 (by decide +kernel) rfl, wG_of 53 (by decide +kernel) rfl, by decide +kernel, by decide +kernel, by decide⟩, wG_of 544 (by decide +kernel) rfl⟩
theorem Y_J2_checkBoundsBeginEnd_d044e : av_Ys yJ2_checkBoundsBeginEnd_d044e cJ2_checkBoundsBeginEnd_d044e 3 none 3 := ⟨⟨wG_of 548 (by decide +kernel) rfl, wG_of 53 (by decide +kernel) rfl, by decide +kernel, by decide +kernel, by decide⟩, wG_of 547 (by decide +kernel) rfl⟩
theorem Y_J2_length_9d52b : av_Ys yJ2_length_9d52b cJ2_length_9d52b 1 (some .int) 1 := ⟨⟨wG_of 551 (by decide +kernel) rfl, wG_of 53 (by decide +kernel) rfl, by decide +kernel, by decide +kernel, by decide⟩, wG_of 550 (by decide +kernel) rfl⟩
theorem Y_J0_checkBoundsBeginEnd_23922 : av_Ys yJ0_checkBoundsBeginEnd_23922 cJ0_checkBoundsBeginEnd_23922 3 none 3 := ⟨⟨wG_of 554 (by decide +kernel) rfl, wG_of 51 (by decide +kernel) rfl, by decide +kernel, by decide +kernel, by decide⟩, wG_of 553 (by decide +kernel) rfl⟩
theorem Y_J3_checkFromToIndex_8c36e : av_Ys yJ3_checkFromToIndex_8c36e cJ3_checkFromToIndex_8c36e 4 (some .int) 4 := ⟨⟨wG_of 559 (by decide +kernel) rfl, wG_of 54 (by decide +kernel) rfl, by decide +kernel, by decide +kernel, by decide⟩, wG_of 558 (by decide +kernel) rfl⟩
theorem Y_J2_indexOfCharUnsafe_4cfef : av_Ys yJ2_indexOfCharUnsafe_4cfef cJ2_indexOfCharUnsafe_4cfef 5 (some .int) 4 := ⟨⟨wG_of 562 (by decide +kernel) rfl, wG_of 53 (by decide +kernel) rfl, by decide +kernel, by decide +kernel, by decide⟩, wG_of 561 (by decide +kernel) rfl⟩
theorem Y_J2_getChar_3b067 : av_Ys yJ2_getChar_3b067 cJ2_getChar_3b067 2 (some .char) 2 := ⟨⟨wG_of 565 (by decide +kernel) rfl, wG_of 53 (by decide +kernel) rfl, by decide +kernel, by decide +kernel, by decide⟩, wG_of 564 (by decide +kernel) rfl⟩
theorem Y_J2_indexOfSupplementary_4cfef : av_Ys yJ2_indexOfSupplementary_4cfef cJ2_indexOfSupplementary_4cfef 7 (some .int) 4 := ⟨⟨wG_of 574 (by decide +kernel) rfl, wG_of 53 (by decide +kernel) rfl, by decide +kernel, by decide +kernel, by decide⟩, wG_of 573 (by decide +kernel) rfl⟩
theorem Y_J11_isValidCodePoint_9a6ad : av_Ys yJ11_isValidCodePoint_9a6ad cJ11_isValidCodePoint_9a6ad 2 (some .boolean) 1 := ⟨⟨wG_of 577 (by decide +kernel) rfl, wG_of 55 (by decide +kernel) rfl, by decide +kernel, by decide +kernel, by decide⟩, wG_of 576 (by decide +kernel) rfl⟩
theorem Y_J11_highSurrogate_5068e : av_Ys yJ11_highSurrogate_5068e cJ11_highSurrogate_5068e 1 (some .char) 1 := ⟨⟨wG_of 580 (by decide +kernel) rfl, wG_of 55 (by decide +kernel) rfl, by decide +kernel, by decide +kernel, by decide⟩, wG_of 579 (by decide +kernel) rfl⟩
theorem Y_J11_lowSurrogate_5068e : av_Ys yJ11_lowSurrogate_5068e cJ11_lowSurrogate_5068e 1 (some .char) 1 := ⟨⟨wG_of 584 (by decide +kernel) rfl, wG_of 55 (by decide +kernel) rfl, by decide +kernel, by decide +kernel, by decide⟩, wG_of 583 (by decide +kernel) rfl⟩
theorem Y_X2_modesAfter : av_Yv yX2_modesAfter cX2_modesAfter 7 (some .int) 1 := ⟨⟨wG_of 591 (by decide +kernel) rfl, wG_of 44 (by decide +kernel) rfl, by decide +kernel, by decide +kernel, by decide⟩, wG_of 589 (by decide +kernel) rfl, wG_of 590 (by decide +kernel) rfl⟩
theorem Y_X2_operatorsAfter : av_Yv yX2_operatorsAfter cX2_operatorsAfter 6 (some .int) 1 := ⟨⟨wG_of 597 (by decide +kernel) rfl, wG_of 44 (by decide +kernel) rfl, by decide +kernel, by decide +kernel, by decide⟩, wG_of 595 (by decide +kernel) rfl, wG_of 596 (by decide +kernel) rfl⟩
theorem Y_X2_countItems : av_Yv yX2_countItems cX2_countItems 4 (some .int) 0 := ⟨⟨wG_of 602 (by decide +kernel) rfl, wG_of 44 (by decide +kernel) rfl, by decide +kernel, by decide +kernel, by decide⟩, wG_of 600 (by decide +kernel) rfl, wG_of 601 (by decide +kernel) rfl⟩
theorem Y_X5_members : av_Yv yX5_members cX5_members 3 (some .int) 2 := ⟨⟨wG_of 607 (by decide +kernel) rfl, wG_of 40 (by decide +kernel) rfl, by decide +kernel, by decide +kernel, by decide⟩, wG_of 605 (by decide +kernel) rfl, wG_of 606 (by decide +kernel) rfl⟩
theorem Y_X5_operators : av_Yv yX5_operators cX5_operators 3 (some .int) 2 := ⟨⟨wG_of 611 (by decide +kernel) rfl, wG_of 40 (by decide +kernel) rfl, by decide +kernel, by decide +kernel, by decide⟩, wG_of 609 (by decide +kernel) rfl, wG_of 610 (by decide +kernel) rfl⟩
theorem Y_X5_modes : av_Yv yX5_modes cX5_modes 3 (some .int) 2 := ⟨⟨wG_of 615 (by decide +kernel) rfl, wG_of 40 (by decide +kernel) rfl, by decide +kernel, by decide +kernel, by decide⟩, wG_of 613 (by decide +kernel) rfl, wG_of 614 (by decide +kernel) rfl⟩
theorem Y_X5_channelTimestamp : av_Yv yX5_channelTimestamp cX5_channelTimestamp 3 (some .int) 2 := ⟨⟨wG_of 619 (by decide +kernel) rfl, wG_of 40 (by decide +kernel) rfl, by decide +kernel, by decide +kernel, by decide⟩, wG_of 617 (by decide +kernel) rfl, wG_of 618 (by decide +kernel) rfl⟩
theorem Y_X5_lastDeprived : av_Yv yX5_lastDeprived cX5_lastDeprived 1 (some .int) 0 := ⟨⟨wG_of 623 (by decide +kernel) rfl, wG_of 40 (by decide +kernel) rfl, by decide +kernel, by decide +kernel, by decide⟩, wG_of 621 (by decide +kernel) rfl, wG_of 622 (by decide +kernel) rfl⟩
theorem Y_X5_lastDropped : av_Yv yX5_lastDropped cX5_lastDropped 1 (some .int) 0 := ⟨⟨wG_of 627 (by decide +kernel) rfl, wG_of 40 (by decide +kernel) rfl, by decide +kernel, by decide +kernel, by decide⟩, wG_of 625 (by decide +kernel) rfl, wG_of 626 (by decide +kernel) rfl⟩
theorem Y_X5_burstSize : av_Yv yX5_burstSize cX5_burstSize 3 (some .int) 2 := ⟨⟨wG_of 631 (by decide +kernel) rfl, wG_of 40 (by decide +kernel) rfl, by decide +kernel, by decide +kernel, by decide⟩, wG_of 629 (by decide +kernel) rfl, wG_of 630 (by decide +kernel) rfl⟩
theorem Y_X4_countMessages : av_Yv yX4_countMessages cX4_countMessages 6 (some .int) 1 := ⟨⟨wG_of 635 (by decide +kernel) rfl, wG_of 41 (by decide +kernel) rfl, by decide +kernel, by decide +kernel, by decide⟩, wG_of 633 (by decide +kernel) rfl, wG_of 634 (by decide +kernel) rfl⟩
theorem Y_X5_killsIfConnected : av_Yv yX5_killsIfConnected cX5_killsIfConnected 3 (some .int) 2 := ⟨⟨wG_of 642 (by decide +kernel) rfl, wG_of 40 (by decide +kernel) rfl, by decide +kernel, by decide +kernel, by decide⟩, wG_of 640 (by decide +kernel) rfl, wG_of 641 (by decide +kernel) rfl⟩
theorem Y_X5_lostIfDisconnected : av_Yv yX5_lostIfDisconnected cX5_lostIfDisconnected 5 (some .int) 2 := ⟨⟨wG_of 646 (by decide +kernel) rfl, wG_of 40 (by decide +kernel) rfl, by decide +kernel, by decide +kernel, by decide⟩, wG_of 644 (by decide +kernel) rfl, wG_of 645 (by decide +kernel) rfl⟩
theorem Y_X5_fewestKills : av_Yv yX5_fewestKills cX5_fewestKills 1 (some .int) 0 := ⟨⟨wG_of 650 (by decide +kernel) rfl, wG_of 40 (by decide +kernel) rfl, by decide +kernel, by decide +kernel, by decide⟩, wG_of 648 (by decide +kernel) rfl, wG_of 649 (by decide +kernel) rfl⟩
theorem Y_X3_findBest : av_Yv yX3_findBest cX3_findBest 2 none 1 := ⟨⟨wG_of 654 (by decide +kernel) rfl, wG_of 45 (by decide +kernel) rfl, by decide +kernel, by decide +kernel, by decide⟩, wG_of 652 (by decide +kernel) rfl, wG_of 653 (by decide +kernel) rfl⟩
theorem Y_X3_load : av_Yv yX3_load cX3_load 7 (some .int) 1 := ⟨⟨wG_of 658 (by decide +kernel) rfl, wG_of 45 (by decide +kernel) rfl, by decide +kernel, by decide +kernel, by decide⟩, wG_of 657 (by decide +kernel) rfl, wG_of 1 (by decide +kernel) rfl⟩
theorem Y_X3_search : av_Yv yX3_search cX3_search 4 none 2 := ⟨⟨wG_of 666 (by decide +kernel) rfl, wG_of 45 (by decide +kernel) rfl, by decide +kernel, by decide +kernel, by decide⟩, wG_of 665 (by decide +kernel) rfl, wG_of 2 (by decide +kernel) rfl⟩
theorem Y_X3_countHopes : av_Ys yX3_countHopes cX3_countHopes 4 (some .int) 2 := ⟨⟨wG_of 669 (by decide +kernel) rfl, wG_of 45 (by decide +kernel) rfl, by decide +kernel, by decide +kernel, by decide⟩, wG_of 668 (by decide +kernel) rfl⟩
theorem Y_X3_mayBeLeft : av_Ys yX3_mayBeLeft cX3_mayBeLeft 8 (some .boolean) 3 := ⟨⟨wG_of 672 (by decide +kernel) rfl, wG_of 45 (by decide +kernel) rfl, by decide +kernel, by decide +kernel, by decide⟩, wG_of 671 (by decide +kernel) rfl⟩
theorem Y_X3_tryLinks : av_Yv yX3_tryLinks cX3_tryLinks 5 none 2 := ⟨⟨wG_of 676 (by decide +kernel) rfl, wG_of 45 (by decide +kernel) rfl, by decide +kernel, by decide +kernel, by decide⟩, wG_of 675 (by decide +kernel) rfl, wG_of 3 (by decide +kernel) rfl⟩
theorem Y_X3_mergeRows : av_Ys yX3_mergeRows cX3_mergeRows 7 none 5 := ⟨⟨wG_of 679 (by decide +kernel) rfl, wG_of 45 (by decide +kernel) rfl, by decide +kernel, by decide +kernel, by decide⟩, wG_of 678 (by decide +kernel) rfl⟩
theorem Y_X5_bestFirstLink : av_Yv yX5_bestFirstLink cX5_bestFirstLink 1 (some .int) 0 := ⟨⟨wG_of 685 (by decide +kernel) rfl, wG_of 40 (by decide +kernel) rfl, by decide +kernel, by decide +kernel, by decide⟩, wG_of 683 (by decide +kernel) rfl, wG_of 684 (by decide +kernel) rfl⟩
theorem Y_X5_undo : av_Yv yX5_undo cX5_undo 1 (some .int) 0 := ⟨⟨wG_of 689 (by decide +kernel) rfl, wG_of 40 (by decide +kernel) rfl, by decide +kernel, by decide +kernel, by decide⟩, wG_of 687 (by decide +kernel) rfl, wG_of 688 (by decide +kernel) rfl⟩
theorem Y_X0_takeBack : av_Yv yX0_takeBack cX0_takeBack 3 none 1 := ⟨⟨wG_of 693 (by decide +kernel) rfl, wG_of 43 (by decide +kernel) rfl, by decide +kernel, by decide +kernel, by decide⟩, wG_of 691 (by decide +kernel) rfl, wG_of 692 (by decide +kernel) rfl⟩
theorem Y_X6_reset : av_Yv yX6_reset cX6_reset 3 none 1 := ⟨⟨wG_of 704 (by decide +kernel) rfl, wG_of 46 (by decide +kernel) rfl, by decide +kernel, by decide +kernel, by decide⟩, wG_of 703 (by decide +kernel) rfl, wG_of 4 (by decide +kernel) rfl⟩
theorem Y_X6_undo : av_Yv yX6_undo cX6_undo 2 (some .int) 0 := ⟨⟨wG_of 748 (by decide +kernel) rfl, wG_of 46 (by decide +kernel) rfl, by decide +kernel, by decide +kernel, by decide⟩, wG_of 746 (by decide +kernel) rfl, wG_of 747 (by decide +kernel) rfl⟩
theorem Y_X6_createServers : av_Yv yX6_createServers cX6_createServers 4 (some .int) 1 := ⟨⟨wG_of 752 (by decide +kernel) rfl, wG_of 46 (by decide +kernel) rfl, by decide +kernel, by decide +kernel, by decide⟩, wG_of 750 (by decide +kernel) rfl, wG_of 751 (by decide +kernel) rfl⟩
theorem Y_X6_in : av_Ys yX6_in cX6_in 3 (some .boolean) 3 := ⟨⟨wG_of 755 (by decide +kernel) rfl, wG_of 46 (by decide +kernel) rfl, by decide +kernel, by decide +kernel, by decide⟩, wG_of 754 (by decide +kernel) rfl⟩
theorem Y_X6_save : av_Yv yX6_save cX6_save 2 none 0 := ⟨⟨wG_of 759 (by decide +kernel) rfl, wG_of 46 (by decide +kernel) rfl, by decide +kernel, by decide +kernel, by decide⟩, wG_of 758 (by decide +kernel) rfl, wG_of 5 (by decide +kernel) rfl⟩
theorem Y_X6_connect : av_Yv yX6_connect cX6_connect 5 (some .int) 2 := ⟨⟨wG_of 763 (by decide +kernel) rfl, wG_of 46 (by decide +kernel) rfl, by decide +kernel, by decide +kernel, by decide⟩, wG_of 761 (by decide +kernel) rfl, wG_of 762 (by decide +kernel) rfl⟩
theorem Y_X6_areServers : av_Yv yX6_areServers cX6_areServers 3 (some .boolean) 2 := ⟨⟨wG_of 767 (by decide +kernel) rfl, wG_of 46 (by decide +kernel) rfl, by decide +kernel, by decide +kernel, by decide⟩, wG_of 766 (by decide +kernel) rfl, wG_of 6 (by decide +kernel) rfl⟩
theorem Y_X6_isServer : av_Yv yX6_isServer cX6_isServer 2 (some .boolean) 1 := ⟨⟨wG_of 771 (by decide +kernel) rfl, wG_of 46 (by decide +kernel) rfl, by decide +kernel, by decide +kernel, by decide⟩, wG_of 770 (by decide +kernel) rfl, wG_of 7 (by decide +kernel) rfl⟩
theorem Y_X6_areConnected : av_Yv yX6_areConnected cX6_areConnected 3 (some .boolean) 2 := ⟨⟨wG_of 775 (by decide +kernel) rfl, wG_of 46 (by decide +kernel) rfl, by decide +kernel, by decide +kernel, by decide⟩, wG_of 774 (by decide +kernel) rfl, wG_of 8 (by decide +kernel) rfl⟩
theorem Y_X6_network : av_Yv yX6_network cX6_network 5 (some .int) 1 := ⟨⟨wG_of 779 (by decide +kernel) rfl, wG_of 46 (by decide +kernel) rfl, by decide +kernel, by decide +kernel, by decide⟩, wG_of 778 (by decide +kernel) rfl, wG_of 9 (by decide +kernel) rfl⟩
theorem Y_X6_has : av_Ys yX6_has cX6_has 2 (some .boolean) 2 := ⟨⟨wG_of 782 (by decide +kernel) rfl, wG_of 46 (by decide +kernel) rfl, by decide +kernel, by decide +kernel, by decide⟩, wG_of 781 (by decide +kernel) rfl⟩
theorem Y_X6_mergeNicks : av_Yv yX6_mergeNicks cX6_mergeNicks 9 (some .int) 2 := ⟨⟨wG_of 786 (by decide +kernel) rfl, wG_of 46 (by decide +kernel) rfl, by decide +kernel, by decide +kernel, by decide⟩, wG_of 785 (by decide +kernel) rfl, wG_of 10 (by decide +kernel) rfl⟩
theorem Y_X6_homeIn : av_Yv yX6_homeIn cX6_homeIn 5 (some .int) 2 := ⟨⟨wG_of 790 (by decide +kernel) rfl, wG_of 46 (by decide +kernel) rfl, by decide +kernel, by decide +kernel, by decide⟩, wG_of 789 (by decide +kernel) rfl, wG_of 11 (by decide +kernel) rfl⟩
theorem Y_X6_isUser : av_Yv yX6_isUser cX6_isUser 3 (some .boolean) 2 := ⟨⟨wG_of 794 (by decide +kernel) rfl, wG_of 46 (by decide +kernel) rfl, by decide +kernel, by decide +kernel, by decide⟩, wG_of 793 (by decide +kernel) rfl, wG_of 12 (by decide +kernel) rfl⟩
theorem Y_X6_userCell : av_Ys yX6_userCell cX6_userCell 2 (some .int) 2 := ⟨⟨wG_of 797 (by decide +kernel) rfl, wG_of 46 (by decide +kernel) rfl, by decide +kernel, by decide +kernel, by decide⟩, wG_of 796 (by decide +kernel) rfl⟩
theorem Y_X6_removeUser : av_Yv yX6_removeUser cX6_removeUser 4 none 2 := ⟨⟨wG_of 801 (by decide +kernel) rfl, wG_of 46 (by decide +kernel) rfl, by decide +kernel, by decide +kernel, by decide⟩, wG_of 800 (by decide +kernel) rfl, wG_of 13 (by decide +kernel) rfl⟩
theorem Y_X6_mergeChannel : av_Yv yX6_mergeChannel cX6_mergeChannel 12 none 3 := ⟨⟨wG_of 805 (by decide +kernel) rfl, wG_of 46 (by decide +kernel) rfl, by decide +kernel, by decide +kernel, by decide⟩, wG_of 804 (by decide +kernel) rfl, wG_of 14 (by decide +kernel) rfl⟩
theorem Y_X6_membersIn : av_Yv yX6_membersIn cX6_membersIn 3 (some .int) 2 := ⟨⟨wG_of 809 (by decide +kernel) rfl, wG_of 46 (by decide +kernel) rfl, by decide +kernel, by decide +kernel, by decide⟩, wG_of 808 (by decide +kernel) rfl, wG_of 15 (by decide +kernel) rfl⟩
theorem Y_X6_nicksIn : av_Yv yX6_nicksIn cX6_nicksIn 9 (some .int) 3 := ⟨⟨wG_of 813 (by decide +kernel) rfl, wG_of 46 (by decide +kernel) rfl, by decide +kernel, by decide +kernel, by decide⟩, wG_of 812 (by decide +kernel) rfl, wG_of 16 (by decide +kernel) rfl⟩
theorem Y_X6_setChannel : av_Yv yX6_setChannel cX6_setChannel 6 none 4 := ⟨⟨wG_of 817 (by decide +kernel) rfl, wG_of 46 (by decide +kernel) rfl, by decide +kernel, by decide +kernel, by decide⟩, wG_of 816 (by decide +kernel) rfl, wG_of 17 (by decide +kernel) rfl⟩
theorem Y_X6_depriveAll : av_Yv yX6_depriveAll cX6_depriveAll 5 none 2 := ⟨⟨wG_of 821 (by decide +kernel) rfl, wG_of 46 (by decide +kernel) rfl, by decide +kernel, by decide +kernel, by decide⟩, wG_of 820 (by decide +kernel) rfl, wG_of 18 (by decide +kernel) rfl⟩
theorem Y_X6_bitCount : av_Ys yX6_bitCount cX6_bitCount 3 (some .int) 1 := ⟨⟨wG_of 824 (by decide +kernel) rfl, wG_of 46 (by decide +kernel) rfl, by decide +kernel, by decide +kernel, by decide⟩, wG_of 823 (by decide +kernel) rfl⟩
theorem Y_X6_setLink : av_Yv yX6_setLink cX6_setLink 4 none 3 := ⟨⟨wG_of 828 (by decide +kernel) rfl, wG_of 46 (by decide +kernel) rfl, by decide +kernel, by decide +kernel, by decide⟩, wG_of 827 (by decide +kernel) rfl, wG_of 19 (by decide +kernel) rfl⟩
theorem Y_X6_disconnect : av_Yv yX6_disconnect cX6_disconnect 3 (some .int) 2 := ⟨⟨wG_of 832 (by decide +kernel) rfl, wG_of 46 (by decide +kernel) rfl, by decide +kernel, by decide +kernel, by decide⟩, wG_of 830 (by decide +kernel) rfl, wG_of 831 (by decide +kernel) rfl⟩
theorem Y_X6_areLinked : av_Yv yX6_areLinked cX6_areLinked 3 (some .boolean) 2 := ⟨⟨wG_of 836 (by decide +kernel) rfl, wG_of 46 (by decide +kernel) rfl, by decide +kernel, by decide +kernel, by decide⟩, wG_of 835 (by decide +kernel) rfl, wG_of 20 (by decide +kernel) rfl⟩
theorem Y_X6_advance : av_Yv yX6_advance cX6_advance 2 (some .int) 1 := ⟨⟨wG_of 840 (by decide +kernel) rfl, wG_of 46 (by decide +kernel) rfl, by decide +kernel, by decide +kernel, by decide⟩, wG_of 838 (by decide +kernel) rfl, wG_of 839 (by decide +kernel) rfl⟩
theorem Y_X6_time : av_Yv yX6_time cX6_time 1 (some .int) 0 := ⟨⟨wG_of 844 (by decide +kernel) rfl, wG_of 46 (by decide +kernel) rfl, by decide +kernel, by decide +kernel, by decide⟩, wG_of 842 (by decide +kernel) rfl, wG_of 843 (by decide +kernel) rfl⟩
theorem Y_X6_hops : av_Yv yX6_hops cX6_hops 7 (some .int) 2 := ⟨⟨wG_of 848 (by decide +kernel) rfl, wG_of 46 (by decide +kernel) rfl, by decide +kernel, by decide +kernel, by decide⟩, wG_of 846 (by decide +kernel) rfl, wG_of 847 (by decide +kernel) rfl⟩
theorem Y_X6_signOn : av_Yv yX6_signOn cX6_signOn 4 (some .int) 2 := ⟨⟨wG_of 852 (by decide +kernel) rfl, wG_of 46 (by decide +kernel) rfl, by decide +kernel, by decide +kernel, by decide⟩, wG_of 850 (by decide +kernel) rfl, wG_of 851 (by decide +kernel) rfl⟩
theorem Y_X6_isPlace : av_Yv yX6_isPlace cX6_isPlace 3 (some .boolean) 2 := ⟨⟨wG_of 856 (by decide +kernel) rfl, wG_of 46 (by decide +kernel) rfl, by decide +kernel, by decide +kernel, by decide⟩, wG_of 855 (by decide +kernel) rfl, wG_of 21 (by decide +kernel) rfl⟩
theorem Y_X6_isNick : av_Ys yX6_isNick cX6_isNick 1 (some .boolean) 1 := ⟨⟨wG_of 859 (by decide +kernel) rfl, wG_of 46 (by decide +kernel) rfl, by decide +kernel, by decide +kernel, by decide⟩, wG_of 858 (by decide +kernel) rfl⟩
theorem Y_X6_signOff : av_Yv yX6_signOff cX6_signOff 4 (some .int) 2 := ⟨⟨wG_of 863 (by decide +kernel) rfl, wG_of 46 (by decide +kernel) rfl, by decide +kernel, by decide +kernel, by decide⟩, wG_of 861 (by decide +kernel) rfl, wG_of 862 (by decide +kernel) rfl⟩
theorem Y_X6_changeNick : av_Yv yX6_changeNick cX6_changeNick 7 (some .int) 3 := ⟨⟨wG_of 867 (by decide +kernel) rfl, wG_of 46 (by decide +kernel) rfl, by decide +kernel, by decide +kernel, by decide⟩, wG_of 865 (by decide +kernel) rfl, wG_of 866 (by decide +kernel) rfl⟩
theorem Y_X6_homeServer : av_Yv yX6_homeServer cX6_homeServer 3 (some .int) 2 := ⟨⟨wG_of 871 (by decide +kernel) rfl, wG_of 46 (by decide +kernel) rfl, by decide +kernel, by decide +kernel, by decide⟩, wG_of 869 (by decide +kernel) rfl, wG_of 870 (by decide +kernel) rfl⟩
theorem Y_X6_userTimestamp : av_Yv yX6_userTimestamp cX6_userTimestamp 4 (some .int) 2 := ⟨⟨wG_of 875 (by decide +kernel) rfl, wG_of 46 (by decide +kernel) rfl, by decide +kernel, by decide +kernel, by decide⟩, wG_of 873 (by decide +kernel) rfl, wG_of 874 (by decide +kernel) rfl⟩
theorem Y_X6_visibleUsers : av_Yv yX6_visibleUsers cX6_visibleUsers 2 (some .int) 1 := ⟨⟨wG_of 879 (by decide +kernel) rfl, wG_of 46 (by decide +kernel) rfl, by decide +kernel, by decide +kernel, by decide⟩, wG_of 877 (by decide +kernel) rfl, wG_of 878 (by decide +kernel) rfl⟩
theorem Y_X6_join : av_Yv yX6_join cX6_join 5 (some .int) 3 := ⟨⟨wG_of 883 (by decide +kernel) rfl, wG_of 46 (by decide +kernel) rfl, by decide +kernel, by decide +kernel, by decide⟩, wG_of 881 (by decide +kernel) rfl, wG_of 882 (by decide +kernel) rfl⟩
theorem Y_X6_isChannel : av_Ys yX6_isChannel cX6_isChannel 1 (some .boolean) 1 := ⟨⟨wG_of 886 (by decide +kernel) rfl, wG_of 46 (by decide +kernel) rfl, by decide +kernel, by decide +kernel, by decide⟩, wG_of 885 (by decide +kernel) rfl⟩
theorem Y_X6_isMember : av_Yv yX6_isMember cX6_isMember 4 (some .boolean) 3 := ⟨⟨wG_of 890 (by decide +kernel) rfl, wG_of 46 (by decide +kernel) rfl, by decide +kernel, by decide +kernel, by decide⟩, wG_of 889 (by decide +kernel) rfl, wG_of 22 (by decide +kernel) rfl⟩
theorem Y_X6_memberCount : av_Yv yX6_memberCount cX6_memberCount 3 (some .int) 2 := ⟨⟨wG_of 894 (by decide +kernel) rfl, wG_of 46 (by decide +kernel) rfl, by decide +kernel, by decide +kernel, by decide⟩, wG_of 893 (by decide +kernel) rfl, wG_of 23 (by decide +kernel) rfl⟩
theorem Y_X6_part : av_Yv yX6_part cX6_part 4 (some .int) 3 := ⟨⟨wG_of 898 (by decide +kernel) rfl, wG_of 46 (by decide +kernel) rfl, by decide +kernel, by decide +kernel, by decide⟩, wG_of 896 (by decide +kernel) rfl, wG_of 897 (by decide +kernel) rfl⟩
theorem Y_X6_leave : av_Yv yX6_leave cX6_leave 4 none 3 := ⟨⟨wG_of 902 (by decide +kernel) rfl, wG_of 46 (by decide +kernel) rfl, by decide +kernel, by decide +kernel, by decide⟩, wG_of 901 (by decide +kernel) rfl, wG_of 24 (by decide +kernel) rfl⟩
theorem Y_X6_kick : av_Yv yX6_kick cX6_kick 5 (some .int) 4 := ⟨⟨wG_of 906 (by decide +kernel) rfl, wG_of 46 (by decide +kernel) rfl, by decide +kernel, by decide +kernel, by decide⟩, wG_of 904 (by decide +kernel) rfl, wG_of 905 (by decide +kernel) rfl⟩
theorem Y_X6_isOperator : av_Yv yX6_isOperator cX6_isOperator 4 (some .boolean) 3 := ⟨⟨wG_of 910 (by decide +kernel) rfl, wG_of 46 (by decide +kernel) rfl, by decide +kernel, by decide +kernel, by decide⟩, wG_of 909 (by decide +kernel) rfl, wG_of 25 (by decide +kernel) rfl⟩
theorem Y_X6_appendCharacter : av_Yv yX6_appendCharacter cX6_appendCharacter 2 (some .int) 1 := ⟨⟨wG_of 914 (by decide +kernel) rfl, wG_of 46 (by decide +kernel) rfl, by decide +kernel, by decide +kernel, by decide⟩, wG_of 912 (by decide +kernel) rfl, wG_of 913 (by decide +kernel) rfl⟩
theorem Y_X6_clearText : av_Yv yX6_clearText cX6_clearText 2 (some .int) 0 := ⟨⟨wG_of 918 (by decide +kernel) rfl, wG_of 46 (by decide +kernel) rfl, by decide +kernel, by decide +kernel, by decide⟩, wG_of 916 (by decide +kernel) rfl, wG_of 917 (by decide +kernel) rfl⟩
theorem Y_X6_applyModes : av_Yv yX6_applyModes cX6_applyModes 5 (some .int) 3 := ⟨⟨wG_of 922 (by decide +kernel) rfl, wG_of 46 (by decide +kernel) rfl, by decide +kernel, by decide +kernel, by decide⟩, wG_of 920 (by decide +kernel) rfl, wG_of 921 (by decide +kernel) rfl⟩
theorem Y_X6_check : av_Yv yX6_check cX6_check 7 (some .int) 1 := ⟨⟨wG_of 926 (by decide +kernel) rfl, wG_of 46 (by decide +kernel) rfl, by decide +kernel, by decide +kernel, by decide⟩, wG_of 925 (by decide +kernel) rfl, wG_of 26 (by decide +kernel) rfl⟩
theorem Y_X6_isSign : av_Ys yX6_isSign cX6_isSign 1 (some .boolean) 1 := ⟨⟨wG_of 929 (by decide +kernel) rfl, wG_of 46 (by decide +kernel) rfl, by decide +kernel, by decide +kernel, by decide⟩, wG_of 928 (by decide +kernel) rfl⟩
theorem Y_X6_modeOf : av_Ys yX6_modeOf cX6_modeOf 1 (some .int) 1 := ⟨⟨wG_of 932 (by decide +kernel) rfl, wG_of 46 (by decide +kernel) rfl, by decide +kernel, by decide +kernel, by decide⟩, wG_of 931 (by decide +kernel) rfl⟩
theorem Y_X6_applyText : av_Yv yX6_applyText cX6_applyText 9 none 2 := ⟨⟨wG_of 936 (by decide +kernel) rfl, wG_of 46 (by decide +kernel) rfl, by decide +kernel, by decide +kernel, by decide⟩, wG_of 935 (by decide +kernel) rfl, wG_of 27 (by decide +kernel) rfl⟩
theorem Y_X6_setOperator : av_Yv yX6_setOperator cX6_setOperator 6 none 4 := ⟨⟨wG_of 940 (by decide +kernel) rfl, wG_of 46 (by decide +kernel) rfl, by decide +kernel, by decide +kernel, by decide⟩, wG_of 939 (by decide +kernel) rfl, wG_of 28 (by decide +kernel) rfl⟩
theorem Y_X6_members : av_Yv yX6_members cX6_members 3 (some .int) 2 := ⟨⟨wG_of 944 (by decide +kernel) rfl, wG_of 46 (by decide +kernel) rfl, by decide +kernel, by decide +kernel, by decide⟩, wG_of 942 (by decide +kernel) rfl, wG_of 943 (by decide +kernel) rfl⟩
theorem Y_X6_operators : av_Yv yX6_operators cX6_operators 3 (some .int) 2 := ⟨⟨wG_of 948 (by decide +kernel) rfl, wG_of 46 (by decide +kernel) rfl, by decide +kernel, by decide +kernel, by decide⟩, wG_of 946 (by decide +kernel) rfl, wG_of 947 (by decide +kernel) rfl⟩
theorem Y_X6_modes : av_Yv yX6_modes cX6_modes 3 (some .int) 2 := ⟨⟨wG_of 952 (by decide +kernel) rfl, wG_of 46 (by decide +kernel) rfl, by decide +kernel, by decide +kernel, by decide⟩, wG_of 950 (by decide +kernel) rfl, wG_of 951 (by decide +kernel) rfl⟩
theorem Y_X6_valueOf : av_Yv yX6_valueOf cX6_valueOf 4 (some .int) 3 := ⟨⟨wG_of 956 (by decide +kernel) rfl, wG_of 46 (by decide +kernel) rfl, by decide +kernel, by decide +kernel, by decide⟩, wG_of 955 (by decide +kernel) rfl, wG_of 29 (by decide +kernel) rfl⟩
theorem Y_X6_channelTimestamp : av_Yv yX6_channelTimestamp cX6_channelTimestamp 3 (some .int) 2 := ⟨⟨wG_of 960 (by decide +kernel) rfl, wG_of 46 (by decide +kernel) rfl, by decide +kernel, by decide +kernel, by decide⟩, wG_of 958 (by decide +kernel) rfl, wG_of 959 (by decide +kernel) rfl⟩
theorem Y_X6_lastDeprived : av_Yv yX6_lastDeprived cX6_lastDeprived 1 (some .int) 0 := ⟨⟨wG_of 964 (by decide +kernel) rfl, wG_of 46 (by decide +kernel) rfl, by decide +kernel, by decide +kernel, by decide⟩, wG_of 962 (by decide +kernel) rfl, wG_of 963 (by decide +kernel) rfl⟩
theorem Y_X6_lastDropped : av_Yv yX6_lastDropped cX6_lastDropped 1 (some .int) 0 := ⟨⟨wG_of 968 (by decide +kernel) rfl, wG_of 46 (by decide +kernel) rfl, by decide +kernel, by decide +kernel, by decide⟩, wG_of 966 (by decide +kernel) rfl, wG_of 967 (by decide +kernel) rfl⟩
theorem Y_X6_burstSize : av_Yv yX6_burstSize cX6_burstSize 4 (some .int) 2 := ⟨⟨wG_of 972 (by decide +kernel) rfl, wG_of 46 (by decide +kernel) rfl, by decide +kernel, by decide +kernel, by decide⟩, wG_of 970 (by decide +kernel) rfl, wG_of 971 (by decide +kernel) rfl⟩
theorem Y_X6_forecastError : av_Yv yX6_forecastError cX6_forecastError 3 (some .int) 2 := ⟨⟨wG_of 976 (by decide +kernel) rfl, wG_of 46 (by decide +kernel) rfl, by decide +kernel, by decide +kernel, by decide⟩, wG_of 975 (by decide +kernel) rfl, wG_of 30 (by decide +kernel) rfl⟩
theorem Y_X6_burstOf : av_Yv yX6_burstOf cX6_burstOf 6 (some .int) 1 := ⟨⟨wG_of 980 (by decide +kernel) rfl, wG_of 46 (by decide +kernel) rfl, by decide +kernel, by decide +kernel, by decide⟩, wG_of 979 (by decide +kernel) rfl, wG_of 31 (by decide +kernel) rfl⟩
theorem Y_X6_killsIfConnected : av_Yv yX6_killsIfConnected cX6_killsIfConnected 4 (some .int) 2 := ⟨⟨wG_of 984 (by decide +kernel) rfl, wG_of 46 (by decide +kernel) rfl, by decide +kernel, by decide +kernel, by decide⟩, wG_of 982 (by decide +kernel) rfl, wG_of 983 (by decide +kernel) rfl⟩
theorem Y_X6_readGroup : av_Yv yX6_readGroup cX6_readGroup 5 none 2 := ⟨⟨wG_of 988 (by decide +kernel) rfl, wG_of 46 (by decide +kernel) rfl, by decide +kernel, by decide +kernel, by decide⟩, wG_of 987 (by decide +kernel) rfl, wG_of 32 (by decide +kernel) rfl⟩
theorem Y_X6_groupCell : av_Ys yX6_groupCell cX6_groupCell 2 (some .int) 2 := ⟨⟨wG_of 991 (by decide +kernel) rfl, wG_of 46 (by decide +kernel) rfl, by decide +kernel, by decide +kernel, by decide⟩, wG_of 990 (by decide +kernel) rfl⟩
theorem Y_X6_mergeGroups : av_Yv yX6_mergeGroups cX6_mergeGroups 9 (some .int) 3 := ⟨⟨wG_of 995 (by decide +kernel) rfl, wG_of 46 (by decide +kernel) rfl, by decide +kernel, by decide +kernel, by decide⟩, wG_of 994 (by decide +kernel) rfl, wG_of 33 (by decide +kernel) rfl⟩
theorem Y_X6_lostIfDisconnected : av_Yv yX6_lostIfDisconnected cX6_lostIfDisconnected 5 (some .int) 2 := ⟨⟨wG_of 999 (by decide +kernel) rfl, wG_of 46 (by decide +kernel) rfl, by decide +kernel, by decide +kernel, by decide⟩, wG_of 997 (by decide +kernel) rfl, wG_of 998 (by decide +kernel) rfl⟩
theorem Y_X6_usersOutside : av_Yv yX6_usersOutside cX6_usersOutside 4 (some .int) 1 := ⟨⟨wG_of 1003 (by decide +kernel) rfl, wG_of 46 (by decide +kernel) rfl, by decide +kernel, by decide +kernel, by decide⟩, wG_of 1002 (by decide +kernel) rfl, wG_of 34 (by decide +kernel) rfl⟩
theorem Y_X6_fewestKills : av_Yv yX6_fewestKills cX6_fewestKills 1 (some .int) 0 := ⟨⟨wG_of 1007 (by decide +kernel) rfl, wG_of 46 (by decide +kernel) rfl, by decide +kernel, by decide +kernel, by decide⟩, wG_of 1005 (by decide +kernel) rfl, wG_of 1006 (by decide +kernel) rfl⟩
theorem Y_X6_searchPlans : av_Yv yX6_searchPlans cX6_searchPlans 4 none 0 := ⟨⟨wG_of 1011 (by decide +kernel) rfl, wG_of 46 (by decide +kernel) rfl, by decide +kernel, by decide +kernel, by decide⟩, wG_of 1010 (by decide +kernel) rfl, wG_of 35 (by decide +kernel) rfl⟩
theorem Y_X6_readGroups : av_Yv yX6_readGroups cX6_readGroups 4 (some .int) 0 := ⟨⟨wG_of 1015 (by decide +kernel) rfl, wG_of 46 (by decide +kernel) rfl, by decide +kernel, by decide +kernel, by decide⟩, wG_of 1014 (by decide +kernel) rfl, wG_of 36 (by decide +kernel) rfl⟩
theorem Y_X6_nextPair : av_Yv yX6_nextPair cX6_nextPair 3 (some .boolean) 2 := ⟨⟨wG_of 1019 (by decide +kernel) rfl, wG_of 46 (by decide +kernel) rfl, by decide +kernel, by decide +kernel, by decide⟩, wG_of 1018 (by decide +kernel) rfl, wG_of 37 (by decide +kernel) rfl⟩
theorem Y_X6_descend : av_Yv yX6_descend cX6_descend 4 none 2 := ⟨⟨wG_of 1023 (by decide +kernel) rfl, wG_of 46 (by decide +kernel) rfl, by decide +kernel, by decide +kernel, by decide⟩, wG_of 1022 (by decide +kernel) rfl, wG_of 38 (by decide +kernel) rfl⟩
theorem Y_X6_bestFirstLink : av_Yv yX6_bestFirstLink cX6_bestFirstLink 1 (some .int) 0 := ⟨⟨wG_of 1027 (by decide +kernel) rfl, wG_of 46 (by decide +kernel) rfl, by decide +kernel, by decide +kernel, by decide⟩, wG_of 1025 (by decide +kernel) rfl, wG_of 1026 (by decide +kernel) rfl⟩
theorem M_X4_43 : av_ml RX4 43 yJ7_fill_53178 := wG_of 70 (by decide +kernel) rfl
theorem M_L_13 : av_ml RL 13 yX5_createServers := wG_of 184 (by decide +kernel) rfl
theorem M_X5_37 : av_ml RX5 37 yX4_countUsers := wG_of 188 (by decide +kernel) rfl
theorem M_X4_59 : av_mlN RX4 59 yX5_hasBit := ⟨_, wN_of 192 (w := Cond.methodLinkNest RX4 59 yX5_hasBit RX5) (by decide +kernel) rfl⟩
theorem M_X4_78 : av_ml RX4 78 yX4_hasUser := wG_of 195 (by decide +kernel) rfl
theorem M_X4_74 : av_ml RX4 74 yX4_userCell := wG_of 199 (by decide +kernel) rfl
theorem M_X5_41 : av_ml RX5 41 yX0_keep := wG_of 202 (by decide +kernel) rfl
theorem M_X0_25 : av_ml RX0 25 yX4_copyFrom := wG_of 206 (by decide +kernel) rfl
theorem M_X4_49 : Cond.methodLink RX4 49 arraycopyName ∈ wG := wG_of 210 (by decide +kernel) rfl
theorem M_X0_29 : av_ml RX0 29 yJ9_min_7cf53 := wG_of 213 (by decide +kernel) rfl
theorem M_X5_45 : av_ml RX5 45 yX4_reset := wG_of 216 (by decide +kernel) rfl
theorem M_L_18 : av_ml RL 18 yX5_connect := wG_of 220 (by decide +kernel) rfl
theorem M_X5_49 : av_ml RX5 49 yX4_hasServers := wG_of 224 (by decide +kernel) rfl
theorem M_X4_55 : av_ml RX4 55 yX4_hasServer := wG_of 228 (by decide +kernel) rfl
theorem M_X5_53 : av_ml RX5 53 yX4_shareNetwork := wG_of 232 (by decide +kernel) rfl
theorem M_X4_71 : av_ml RX4 71 yX4_networkOf := wG_of 236 (by decide +kernel) rfl
theorem M_X4_67 : av_ml RX4 67 yX4_withNeighbours := wG_of 240 (by decide +kernel) rfl
theorem M_X5_56 : av_ml RX5 56 yX1_countKills := wG_of 244 (by decide +kernel) rfl
theorem M_X1_18 : av_ml RX1 18 yX4_networkOf := wG_of 247 (by decide +kernel) rfl
theorem M_X1_24 : av_ml RX1 24 yX4_timeOfNick := wG_of 248 (by decide +kernel) rfl
theorem M_X4_81 : av_ml RX4 81 yX4_homeIn := wG_of 252 (by decide +kernel) rfl
theorem M_X4_84 : av_ml RX4 84 yX4_timeOfUser := wG_of 256 (by decide +kernel) rfl
theorem M_X1_27 : av_ml RX1 27 yX1_survivor := wG_of 260 (by decide +kernel) rfl
theorem M_X1_9 : av_ml RX1 9 yJ9_max_7cf53 := wG_of 263 (by decide +kernel) rfl
theorem M_X1_15 : av_ml RX1 15 yJ9_min_7cf53 := wG_of 266 (by decide +kernel) rfl
theorem M_X5_62 : av_ml RX5 62 yX1_settleNicks := wG_of 267 (by decide +kernel) rfl
theorem M_X1_32 : av_ml RX1 32 yX4_homeIn := wG_of 270 (by decide +kernel) rfl
theorem M_X1_35 : av_ml RX1 35 yX1_settleCollision := wG_of 271 (by decide +kernel) rfl
theorem M_X1_39 : av_ml RX1 39 yX4_timeOfUser := wG_of 274 (by decide +kernel) rfl
theorem M_X1_42 : av_ml RX1 42 yX4_removeUser := wG_of 275 (by decide +kernel) rfl
theorem M_X4_91 : av_ml RX4 91 yX4_removeMember := wG_of 279 (by decide +kernel) rfl
theorem M_X4_111 : av_ml RX4 111 yX4_channelCell := wG_of 283 (by decide +kernel) rfl
theorem M_X4_63 : av_mlN RX4 63 yX5_withBit := ⟨_, wN_of 286 (w := Cond.methodLinkNest RX4 63 yX5_withBit RX5) (by decide +kernel) rfl⟩
theorem M_X5_66 : av_ml RX5 66 yX1_settleChannels := wG_of 289 (by decide +kernel) rfl
theorem M_X1_53 : av_ml RX1 53 yX4_hasChannel := wG_of 292 (by decide +kernel) rfl
theorem M_X4_118 : av_ml RX4 118 yX4_membersIn := wG_of 296 (by decide +kernel) rfl
theorem M_X4_114 : av_ml RX4 114 yX4_unionOf := wG_of 300 (by decide +kernel) rfl
theorem M_X1_57 : av_ml RX1 57 yX1_uniteChannels := wG_of 303 (by decide +kernel) rfl
theorem M_X1_63 : av_ml RX1 63 yX4_timeOfChannel := wG_of 306 (by decide +kernel) rfl
theorem M_X1_66 : av_ml RX1 66 yX1_overruleChannel := wG_of 310 (by decide +kernel) rfl
theorem M_X1_76 : av_ml RX1 76 yX4_operatorsIn := wG_of 313 (by decide +kernel) rfl
theorem M_X1_79 : av_ml RX1 79 yJ6_bitCount_0f7a4 := wG_of 317 (by decide +kernel) rfl
theorem M_X1_69 : av_ml RX1 69 yX4_modesOfChannel := wG_of 323 (by decide +kernel) rfl
theorem M_X1_84 : av_ml RX1 84 yX4_setOperators := wG_of 327 (by decide +kernel) rfl
theorem M_X1_60 : av_ml RX1 60 yX1_tellOfChannel := wG_of 331 (by decide +kernel) rfl
theorem M_X1_72 : av_ml RX1 72 yX4_describeChannel := wG_of 334 (by decide +kernel) rfl
theorem M_X5_69 : av_ml RX5 69 yX4_link := wG_of 338 (by decide +kernel) rfl
theorem M_L_23 : av_ml RL 23 yX5_disconnect := wG_of 342 (by decide +kernel) rfl
theorem M_X5_73 : av_ml RX5 73 yX4_areLinked := wG_of 346 (by decide +kernel) rfl
theorem M_X5_76 : av_ml RX5 76 yX4_unlink := wG_of 350 (by decide +kernel) rfl
theorem M_X5_79 : av_ml RX5 79 yX4_networkOf := wG_of 354 (by decide +kernel) rfl
theorem M_X5_82 : av_ml RX5 82 yJ6_bitCount_0f7a4 := wG_of 355 (by decide +kernel) rfl
theorem M_L_27 : av_ml RL 27 yX5_advance := wG_of 356 (by decide +kernel) rfl
theorem M_L_31 : av_ml RL 31 yX5_time := wG_of 360 (by decide +kernel) rfl
theorem M_L_36 : av_ml RL 36 yX5_hops := wG_of 364 (by decide +kernel) rfl
theorem M_X5_91 : av_ml RX5 91 yX5_hasBit := wG_of 368 (by decide +kernel) rfl
theorem M_X5_94 : av_ml RX5 94 yX4_withNeighbours := wG_of 369 (by decide +kernel) rfl
theorem M_L_40 : av_ml RL 40 yX5_signOn := wG_of 370 (by decide +kernel) rfl
theorem M_X5_97 : av_ml RX5 97 yX4_hasServer := wG_of 374 (by decide +kernel) rfl
theorem M_X5_101 : av_ml RX5 101 yX5_isNick := wG_of 375 (by decide +kernel) rfl
theorem M_X5_104 : av_ml RX5 104 yX4_homeIn := wG_of 378 (by decide +kernel) rfl
theorem M_X5_108 : av_ml RX5 108 yX4_addUser := wG_of 379 (by decide +kernel) rfl
theorem M_L_44 : av_ml RL 44 yX5_signOff := wG_of 383 (by decide +kernel) rfl
theorem M_X5_111 : av_ml RX5 111 yX4_hasUser := wG_of 387 (by decide +kernel) rfl
theorem M_X5_114 : av_ml RX5 114 yX4_countChannelsOf := wG_of 388 (by decide +kernel) rfl
theorem M_X4_87 : av_ml RX4 87 yX4_isMember := wG_of 392 (by decide +kernel) rfl
theorem M_X5_117 : av_ml RX5 117 yX4_removeUser := wG_of 396 (by decide +kernel) rfl
theorem M_L_48 : av_ml RL 48 yX5_changeNick := wG_of 397 (by decide +kernel) rfl
theorem M_X5_120 : av_ml RX5 120 yX4_timeOfUser := wG_of 401 (by decide +kernel) rfl
theorem M_X5_123 : av_ml RX5 123 yX4_renameUser := wG_of 402 (by decide +kernel) rfl
theorem M_X4_95 : av_ml RX4 95 yX4_addUser := wG_of 406 (by decide +kernel) rfl
theorem M_X4_99 : av_ml RX4 99 yX4_addMember := wG_of 407 (by decide +kernel) rfl
theorem M_X4_102 : av_ml RX4 102 yX4_isOperator := wG_of 411 (by decide +kernel) rfl
theorem M_X4_105 : av_ml RX4 105 yX4_addOperator := wG_of 415 (by decide +kernel) rfl
theorem M_X4_108 : av_ml RX4 108 yX4_removeUser := wG_of 419 (by decide +kernel) rfl
theorem M_L_53 : av_ml RL 53 yX5_homeServer := wG_of 420 (by decide +kernel) rfl
theorem M_L_57 : av_ml RL 57 yX5_userTimestamp := wG_of 424 (by decide +kernel) rfl
theorem M_X5_127 : av_ml RX5 127 yX4_timeOfNick := wG_of 428 (by decide +kernel) rfl
theorem M_L_61 : av_ml RL 61 yX5_visibleUsers := wG_of 429 (by decide +kernel) rfl
theorem M_X5_130 : av_ml RX5 130 yX4_nicksIn := wG_of 433 (by decide +kernel) rfl
theorem M_L_65 : av_ml RL 65 yX5_join := wG_of 437 (by decide +kernel) rfl
theorem M_X5_133 : av_ml RX5 133 yX5_isChannel := wG_of 441 (by decide +kernel) rfl
theorem M_X5_136 : av_ml RX5 136 yX4_isMember := wG_of 444 (by decide +kernel) rfl
theorem M_X5_140 : av_ml RX5 140 yX4_hasChannel := wG_of 445 (by decide +kernel) rfl
theorem M_X5_143 : av_ml RX5 143 yX4_describeChannel := wG_of 446 (by decide +kernel) rfl
theorem M_X5_147 : av_ml RX5 147 yX4_addOperator := wG_of 447 (by decide +kernel) rfl
theorem M_X5_150 : av_ml RX5 150 yX4_addMember := wG_of 448 (by decide +kernel) rfl
theorem M_X5_153 : av_ml RX5 153 yX4_membersIn := wG_of 449 (by decide +kernel) rfl
theorem M_L_69 : av_ml RL 69 yX5_part := wG_of 450 (by decide +kernel) rfl
theorem M_X5_156 : av_ml RX5 156 yX5_leaveChannel := wG_of 454 (by decide +kernel) rfl
theorem M_X5_163 : av_ml RX5 163 yX4_removeMember := wG_of 458 (by decide +kernel) rfl
theorem M_L_73 : av_ml RL 73 yX5_kick := wG_of 459 (by decide +kernel) rfl
theorem M_X5_160 : av_ml RX5 160 yX4_isOperator := wG_of 463 (by decide +kernel) rfl
theorem M_L_78 : av_ml RL 78 yX5_appendCharacter := wG_of 464 (by decide +kernel) rfl
theorem M_X5_166 : av_ml RX5 166 yX2_isFull := wG_of 468 (by decide +kernel) rfl
theorem M_X5_170 : av_ml RX5 170 yX2_add := wG_of 472 (by decide +kernel) rfl
theorem M_X2_19 : av_ml RX2 19 yX2_isFull := wG_of 476 (by decide +kernel) rfl
theorem M_L_82 : av_ml RL 82 yX5_clearText := wG_of 477 (by decide +kernel) rfl
theorem M_X5_177 : av_ml RX5 177 yX2_empty := wG_of 481 (by decide +kernel) rfl
theorem M_L_86 : av_ml RL 86 yX5_applyModes := wG_of 485 (by decide +kernel) rfl
theorem M_X5_180 : av_ml RX5 180 yX2_errorOffset := wG_of 489 (by decide +kernel) rfl
theorem M_X2_23 : av_ml RX2 23 yX2_placeAfter := wG_of 493 (by decide +kernel) rfl
theorem M_X2_27 : av_ml RX2 27 yX2_isDigit := wG_of 496 (by decide +kernel) rfl
theorem M_X2_31 : av_mlN RX2 31 yX5_hasBit := ⟨_, wN_of 499 (w := Cond.methodLinkNest RX2 31 yX5_hasBit RX5) (by decide +kernel) rfl⟩
theorem M_X2_35 : av_ml RX2 35 yX2_isSign := wG_of 500 (by decide +kernel) rfl
theorem M_X2_40 : av_ml RX2 40 yJ0_indexOf_0f7a4 := wG_of 504 (by decide +kernel) rfl
theorem M_J0_633 : av_ml RJ0 633 yJ0_indexOf_7cf53 := wG_of 508 (by decide +kernel) rfl
theorem M_J0_492 : av_ml RJ0 492 yJ0_isLatin1_aae02 := wG_of 512 (by decide +kernel) rfl
theorem M_J0_505 : av_ml RJ0 505 yJ0_length_8abf5 := wG_of 518 (by decide +kernel) rfl
theorem M_J0_335 : av_ml RJ0 335 yJ0_coder_7d493 := wG_of 522 (by decide +kernel) rfl
theorem M_J0_637 : av_ml RJ0 637 yJ1_indexOf_4cfef := wG_of 526 (by decide +kernel) rfl
theorem M_J1_88 : av_ml RJ1 88 yJ1_canEncode_9a6ad := wG_of 529 (by decide +kernel) rfl
theorem M_J1_92 : av_ml RJ1 92 yJ9_max_7cf53 := wG_of 532 (by decide +kernel) rfl
theorem M_J1_38 : av_ml RJ1 38 yJ9_min_7cf53 := wG_of 533 (by decide +kernel) rfl
theorem M_J1_95 : av_ml RJ1 95 yJ1_indexOfChar_4cfef := wG_of 534 (by decide +kernel) rfl
theorem M_J0_640 : av_ml RJ0 640 yJ2_indexOf_4cfef := wG_of 537 (by decide +kernel) rfl
theorem M_J2_224 : av_ml RJ2 224 yJ9_max_7cf53 := wG_of 540 (by decide +kernel) rfl
theorem M_J2_183 : av_ml RJ2 183 yJ9_min_7cf53 := wG_of 541 (by decide +kernel) rfl
theorem M_J2_228 : av_ml RJ2 228 yJ2_indexOfChar_4cfef := wG_of 543 (by decide +kernel) rfl
theorem M_J2_96 : av_ml RJ2 96 yJ2_checkBoundsBeginEnd_d044e := wG_of 546 (by decide +kernel) rfl
theorem M_J2_48 : av_ml RJ2 48 yJ2_length_9d52b := wG_of 549 (by decide +kernel) rfl
theorem M_J2_241 : av_ml RJ2 241 yJ0_checkBoundsBeginEnd_23922 := wG_of 552 (by decide +kernel) rfl
theorem M_J0_1062 : av_ml RJ0 1062 yJ3_checkFromToIndex_8c36e := wG_of 557 (by decide +kernel) rfl
theorem M_J2_244 : av_ml RJ2 244 yJ2_indexOfCharUnsafe_4cfef := wG_of 560 (by decide +kernel) rfl
theorem M_J2_71 : av_ml RJ2 71 yJ2_getChar_3b067 := wG_of 563 (by decide +kernel) rfl
theorem M_J2_232 : av_ml RJ2 232 yJ2_indexOfSupplementary_4cfef := wG_of 572 (by decide +kernel) rfl
theorem M_J2_164 : av_ml RJ2 164 yJ11_isValidCodePoint_9a6ad := wG_of 575 (by decide +kernel) rfl
theorem M_J2_157 : av_ml RJ2 157 yJ11_highSurrogate_5068e := wG_of 578 (by decide +kernel) rfl
theorem M_J2_161 : av_ml RJ2 161 yJ11_lowSurrogate_5068e := wG_of 582 (by decide +kernel) rfl
theorem M_X5_183 : av_ml RX5 183 yX4_timeOfChannel := wG_of 586 (by decide +kernel) rfl
theorem M_X5_186 : av_ml RX5 186 yX4_modesOfChannel := wG_of 587 (by decide +kernel) rfl
theorem M_X5_189 : av_ml RX5 189 yX2_modesAfter := wG_of 588 (by decide +kernel) rfl
theorem M_X2_46 : av_mlN RX2 46 yX5_withBit := ⟨_, wN_of 592 (w := Cond.methodLinkNest RX2 46 yX5_withBit RX5) (by decide +kernel) rfl⟩
theorem M_X5_192 : av_ml RX5 192 yX4_operatorsIn := wG_of 593 (by decide +kernel) rfl
theorem M_X5_195 : av_ml RX5 195 yX2_operatorsAfter := wG_of 594 (by decide +kernel) rfl
theorem M_X5_198 : av_ml RX5 198 yX4_setOperators := wG_of 598 (by decide +kernel) rfl
theorem M_X5_201 : av_ml RX5 201 yX2_countItems := wG_of 599 (by decide +kernel) rfl
theorem M_L_90 : av_ml RL 90 yX5_members := wG_of 604 (by decide +kernel) rfl
theorem M_L_94 : av_ml RL 94 yX5_operators := wG_of 608 (by decide +kernel) rfl
theorem M_L_98 : av_ml RL 98 yX5_modes := wG_of 612 (by decide +kernel) rfl
theorem M_L_102 : av_ml RL 102 yX5_channelTimestamp := wG_of 616 (by decide +kernel) rfl
theorem M_L_106 : av_ml RL 106 yX5_lastDeprived := wG_of 620 (by decide +kernel) rfl
theorem M_L_110 : av_ml RL 110 yX5_lastDropped := wG_of 624 (by decide +kernel) rfl
theorem M_L_114 : av_ml RL 114 yX5_burstSize := wG_of 628 (by decide +kernel) rfl
theorem M_X5_211 : av_ml RX5 211 yX4_countMessages := wG_of 632 (by decide +kernel) rfl
theorem M_X4_121 : av_ml RX4 121 yJ6_bitCount_0f7a4 := wG_of 636 (by decide +kernel) rfl
theorem M_X4_126 : av_ml RX4 126 yX4_countUsers := wG_of 637 (by decide +kernel) rfl
theorem M_X4_129 : av_ml RX4 129 yX4_modesOfChannel := wG_of 638 (by decide +kernel) rfl
theorem M_L_118 : av_ml RL 118 yX5_killsIfConnected := wG_of 639 (by decide +kernel) rfl
theorem M_L_122 : av_ml RL 122 yX5_lostIfDisconnected := wG_of 643 (by decide +kernel) rfl
theorem M_L_126 : av_ml RL 126 yX5_fewestKills := wG_of 647 (by decide +kernel) rfl
theorem M_X5_214 : av_ml RX5 214 yX3_findBest := wG_of 651 (by decide +kernel) rfl
theorem M_X3_30 : av_ml RX3 30 yX3_load := wG_of 655 (by decide +kernel) rfl
theorem M_X3_38 : av_ml RX3 38 yX4_hasServer := wG_of 659 (by decide +kernel) rfl
theorem M_X3_44 : av_mlN RX3 44 yX5_hasBit := ⟨_, wN_of 660 (w := Cond.methodLinkNest RX3 44 yX5_hasBit RX5) (by decide +kernel) rfl⟩
theorem M_X3_48 : av_ml RX3 48 yX4_networkOf := wG_of 661 (by decide +kernel) rfl
theorem M_X3_52 : av_ml RX3 52 yX4_timeOfNick := wG_of 662 (by decide +kernel) rfl
theorem M_X3_34 : av_ml RX3 34 yX3_search := wG_of 663 (by decide +kernel) rfl
theorem M_X3_56 : av_ml RX3 56 yX3_countHopes := wG_of 667 (by decide +kernel) rfl
theorem M_X3_78 : av_ml RX3 78 yX3_mayBeLeft := wG_of 670 (by decide +kernel) rfl
theorem M_X3_60 : av_ml RX3 60 yX3_tryLinks := wG_of 673 (by decide +kernel) rfl
theorem M_X3_63 : av_ml RX3 63 yX3_mergeRows := wG_of 677 (by decide +kernel) rfl
theorem M_X3_67 : Cond.methodLink RX3 67 arraycopyName ∈ wG := wG_of 680 (by decide +kernel) rfl
theorem M_X3_73 : av_ml RX3 73 yX1_survivor := wG_of 681 (by decide +kernel) rfl
theorem M_L_130 : av_ml RL 130 yX5_bestFirstLink := wG_of 682 (by decide +kernel) rfl
theorem M_L_134 : av_ml RL 134 yX5_undo := wG_of 686 (by decide +kernel) rfl
theorem M_X5_226 : av_ml RX5 226 yX0_takeBack := wG_of 690 (by decide +kernel) rfl
theorem M_X0_35 : av_ml RX0 35 yJ9_max_7cf53 := wG_of 694 (by decide +kernel) rfl
theorem M_X6_34 : av_ml RX6 34 yX6_reset := wG_of 701 (by decide +kernel) rfl
theorem M_L_137 : av_ml RL 137 yX6_undo := wG_of 745 (by decide +kernel) rfl
theorem M_L_17 : av_ml RL 17 yX6_createServers := wG_of 749 (by decide +kernel) rfl
theorem M_X6_42 : av_ml RX6 42 yX6_in := wG_of 753 (by decide +kernel) rfl
theorem M_X6_69 : av_ml RX6 69 yX6_save := wG_of 756 (by decide +kernel) rfl
theorem M_L_22 : av_ml RL 22 yX6_connect := wG_of 760 (by decide +kernel) rfl
theorem M_X6_92 : av_ml RX6 92 yX6_areServers := wG_of 764 (by decide +kernel) rfl
theorem M_X6_46 : av_ml RX6 46 yX6_isServer := wG_of 768 (by decide +kernel) rfl
theorem M_X6_95 : av_ml RX6 95 yX6_areConnected := wG_of 772 (by decide +kernel) rfl
theorem M_X6_54 : av_ml RX6 54 yX6_network := wG_of 776 (by decide +kernel) rfl
theorem M_X6_50 : av_ml RX6 50 yX6_has := wG_of 780 (by decide +kernel) rfl
theorem M_X6_98 : av_ml RX6 98 yX6_mergeNicks := wG_of 783 (by decide +kernel) rfl
theorem M_X6_72 : av_ml RX6 72 yX6_homeIn := wG_of 787 (by decide +kernel) rfl
theorem M_X6_62 : av_ml RX6 62 yX6_isUser := wG_of 791 (by decide +kernel) rfl
theorem M_X6_58 : av_ml RX6 58 yX6_userCell := wG_of 795 (by decide +kernel) rfl
theorem M_X6_75 : av_ml RX6 75 yX6_removeUser := wG_of 798 (by decide +kernel) rfl
theorem M_X6_101 : av_ml RX6 101 yX6_mergeChannel := wG_of 802 (by decide +kernel) rfl
theorem M_X6_82 : av_ml RX6 82 yX6_membersIn := wG_of 806 (by decide +kernel) rfl
theorem M_X6_65 : av_ml RX6 65 yX6_nicksIn := wG_of 810 (by decide +kernel) rfl
theorem M_X6_85 : av_ml RX6 85 yX6_setChannel := wG_of 814 (by decide +kernel) rfl
theorem M_X6_89 : av_ml RX6 89 yX6_depriveAll := wG_of 818 (by decide +kernel) rfl
theorem M_X6_79 : av_ml RX6 79 yX6_bitCount := wG_of 822 (by decide +kernel) rfl
theorem M_X6_105 : av_ml RX6 105 yX6_setLink := wG_of 825 (by decide +kernel) rfl
theorem M_L_26 : av_ml RL 26 yX6_disconnect := wG_of 829 (by decide +kernel) rfl
theorem M_X6_109 : av_ml RX6 109 yX6_areLinked := wG_of 833 (by decide +kernel) rfl
theorem M_L_30 : av_ml RL 30 yX6_advance := wG_of 837 (by decide +kernel) rfl
theorem M_L_35 : av_ml RL 35 yX6_time := wG_of 841 (by decide +kernel) rfl
theorem M_L_39 : av_ml RL 39 yX6_hops := wG_of 845 (by decide +kernel) rfl
theorem M_L_43 : av_ml RL 43 yX6_signOn := wG_of 849 (by decide +kernel) rfl
theorem M_X6_115 : av_ml RX6 115 yX6_isPlace := wG_of 853 (by decide +kernel) rfl
theorem M_X6_112 : av_ml RX6 112 yX6_isNick := wG_of 857 (by decide +kernel) rfl
theorem M_L_47 : av_ml RL 47 yX6_signOff := wG_of 860 (by decide +kernel) rfl
theorem M_L_52 : av_ml RL 52 yX6_changeNick := wG_of 864 (by decide +kernel) rfl
theorem M_L_56 : av_ml RL 56 yX6_homeServer := wG_of 868 (by decide +kernel) rfl
theorem M_L_60 : av_ml RL 60 yX6_userTimestamp := wG_of 872 (by decide +kernel) rfl
theorem M_L_64 : av_ml RL 64 yX6_visibleUsers := wG_of 876 (by decide +kernel) rfl
theorem M_L_68 : av_ml RL 68 yX6_join := wG_of 880 (by decide +kernel) rfl
theorem M_X6_118 : av_ml RX6 118 yX6_isChannel := wG_of 884 (by decide +kernel) rfl
theorem M_X6_121 : av_ml RX6 121 yX6_isMember := wG_of 887 (by decide +kernel) rfl
theorem M_X6_124 : av_ml RX6 124 yX6_memberCount := wG_of 891 (by decide +kernel) rfl
theorem M_L_72 : av_ml RL 72 yX6_part := wG_of 895 (by decide +kernel) rfl
theorem M_X6_127 : av_ml RX6 127 yX6_leave := wG_of 899 (by decide +kernel) rfl
theorem M_L_77 : av_ml RL 77 yX6_kick := wG_of 903 (by decide +kernel) rfl
theorem M_X6_130 : av_ml RX6 130 yX6_isOperator := wG_of 907 (by decide +kernel) rfl
theorem M_L_81 : av_ml RL 81 yX6_appendCharacter := wG_of 911 (by decide +kernel) rfl
theorem M_L_85 : av_ml RL 85 yX6_clearText := wG_of 915 (by decide +kernel) rfl
theorem M_L_89 : av_ml RL 89 yX6_applyModes := wG_of 919 (by decide +kernel) rfl
theorem M_X6_149 : av_ml RX6 149 yX6_check := wG_of 923 (by decide +kernel) rfl
theorem M_X6_139 : av_ml RX6 139 yX6_isSign := wG_of 927 (by decide +kernel) rfl
theorem M_X6_142 : av_ml RX6 142 yX6_modeOf := wG_of 930 (by decide +kernel) rfl
theorem M_X6_152 : av_ml RX6 152 yX6_applyText := wG_of 933 (by decide +kernel) rfl
theorem M_X6_145 : av_ml RX6 145 yX6_setOperator := wG_of 937 (by decide +kernel) rfl
theorem M_L_93 : av_ml RL 93 yX6_members := wG_of 941 (by decide +kernel) rfl
theorem M_L_97 : av_ml RL 97 yX6_operators := wG_of 945 (by decide +kernel) rfl
theorem M_L_101 : av_ml RL 101 yX6_modes := wG_of 949 (by decide +kernel) rfl
theorem M_X6_155 : av_ml RX6 155 yX6_valueOf := wG_of 953 (by decide +kernel) rfl
theorem M_L_105 : av_ml RL 105 yX6_channelTimestamp := wG_of 957 (by decide +kernel) rfl
theorem M_L_109 : av_ml RL 109 yX6_lastDeprived := wG_of 961 (by decide +kernel) rfl
theorem M_L_113 : av_ml RL 113 yX6_lastDropped := wG_of 965 (by decide +kernel) rfl
theorem M_L_117 : av_ml RL 117 yX6_burstSize := wG_of 969 (by decide +kernel) rfl
theorem M_X6_158 : av_ml RX6 158 yX6_forecastError := wG_of 973 (by decide +kernel) rfl
theorem M_X6_161 : av_ml RX6 161 yX6_burstOf := wG_of 977 (by decide +kernel) rfl
theorem M_L_121 : av_ml RL 121 yX6_killsIfConnected := wG_of 981 (by decide +kernel) rfl
theorem M_X6_164 : av_ml RX6 164 yX6_readGroup := wG_of 985 (by decide +kernel) rfl
theorem M_X6_173 : av_ml RX6 173 yX6_groupCell := wG_of 989 (by decide +kernel) rfl
theorem M_X6_167 : av_ml RX6 167 yX6_mergeGroups := wG_of 992 (by decide +kernel) rfl
theorem M_L_125 : av_ml RL 125 yX6_lostIfDisconnected := wG_of 996 (by decide +kernel) rfl
theorem M_X6_170 : av_ml RX6 170 yX6_usersOutside := wG_of 1000 (by decide +kernel) rfl
theorem M_L_129 : av_ml RL 129 yX6_fewestKills := wG_of 1004 (by decide +kernel) rfl
theorem M_X6_192 : av_ml RX6 192 yX6_searchPlans := wG_of 1008 (by decide +kernel) rfl
theorem M_X6_176 : av_ml RX6 176 yX6_readGroups := wG_of 1012 (by decide +kernel) rfl
theorem M_X6_186 : av_ml RX6 186 yX6_nextPair := wG_of 1016 (by decide +kernel) rfl
theorem M_X6_189 : av_ml RX6 189 yX6_descend := wG_of 1020 (by decide +kernel) rfl
theorem M_L_133 : av_ml RL 133 yX6_bestFirstLink := wG_of 1024 (by decide +kernel) rfl
theorem W_max : Cond.static Lib.Math.max.name ∈ wG ∧ Cond.initialized "java/lang/Math" ∈ wG ∧ Cond.code Lib.Math.max.name Lib.Math.max.code 2 (some .int) ∈ wG := ⟨wG_of 264 (by decide +kernel) rfl, wG_of 48 (by decide +kernel) rfl, wG_of 265 (by decide +kernel) rfl⟩
theorem W_min : Cond.static Lib.Math.min.name ∈ wG ∧ Cond.initialized "java/lang/Math" ∈ wG ∧ Cond.code Lib.Math.min.name Lib.Math.min.code 2 (some .int) ∈ wG := ⟨wG_of 214 (by decide +kernel) rfl, wG_of 48 (by decide +kernel) rfl, wG_of 215 (by decide +kernel) rfl⟩
theorem W_acopy : Cond.native arraycopyName ∈ wG ∧ Cond.static arraycopyName ∈ wG ∧ Cond.initialized "java/lang/System" ∈ wG := ⟨wG_of 212 (by decide +kernel) rfl, wG_of 211 (by decide +kernel) rfl, wG_of 47 (by decide +kernel) rfl⟩
theorem L_X4_9 : av_lk RX4 9 TX4 0 := Or.inl (wG_of 73 (by decide +kernel) rfl)
theorem L_X4_15 : av_lk RX4 15 TX4 1 := Or.inl (wG_of 74 (by decide +kernel) rfl)
theorem L_X5_87 : av_lk RX5 87 TX4 1 := Or.inr ⟨RX5, wN_of 75 (by decide +kernel) rfl⟩
theorem L_X4_18 : av_lk RX4 18 TX4 2 := Or.inl (wG_of 76 (by decide +kernel) rfl)
theorem L_X1_46 : av_lk RX1 46 TX4 2 := Or.inr ⟨RX5, wN_of 77 (by decide +kernel) rfl⟩
theorem L_X5_205 : av_lk RX5 205 TX4 2 := Or.inr ⟨RX5, wN_of 78 (by decide +kernel) rfl⟩
theorem L_X4_21 : av_lk RX4 21 TX4 3 := Or.inl (wG_of 79 (by decide +kernel) rfl)
theorem L_X1_50 : av_lk RX1 50 TX4 3 := Or.inr ⟨RX5, wN_of 80 (by decide +kernel) rfl⟩
theorem L_X5_208 : av_lk RX5 208 TX4 3 := Or.inr ⟨RX5, wN_of 81 (by decide +kernel) rfl⟩
theorem L_X4_24 : av_lk RX4 24 TX4 4 := Or.inl (wG_of 82 (by decide +kernel) rfl)
theorem L_X4_28 : av_lk RX4 28 TX4 5 := Or.inl (wG_of 83 (by decide +kernel) rfl)
theorem L_X4_31 : av_lk RX4 31 TX4 6 := Or.inl (wG_of 84 (by decide +kernel) rfl)
theorem L_X4_34 : av_lk RX4 34 TX4 7 := Or.inl (wG_of 85 (by decide +kernel) rfl)
theorem L_X4_37 : av_lk RX4 37 TX4 8 := Or.inl (wG_of 86 (by decide +kernel) rfl)
theorem L_X4_40 : av_lk RX4 40 TX4 9 := Or.inl (wG_of 87 (by decide +kernel) rfl)
theorem L_X0_11 : av_lk RX0 11 TX0 0 := Or.inl (wG_of 119 (by decide +kernel) rfl)
theorem L_X0_17 : av_lk RX0 17 TX0 1 := Or.inl (wG_of 120 (by decide +kernel) rfl)
theorem L_X0_21 : av_lk RX0 21 TX0 2 := Or.inl (wG_of 121 (by decide +kernel) rfl)
theorem L_X5_223 : av_lk RX5 223 TX0 2 := Or.inr ⟨RX5, wN_of 122 (by decide +kernel) rfl⟩
theorem L_X2_9 : av_lk RX2 9 TX2 0 := Or.inl (wG_of 136 (by decide +kernel) rfl)
theorem L_X2_15 : av_lk RX2 15 TX2 1 := Or.inl (wG_of 137 (by decide +kernel) rfl)
theorem L_X5_174 : av_lk RX5 174 TX2 1 := Or.inr ⟨RX5, wN_of 138 (by decide +kernel) rfl⟩
theorem L_X3_11 : av_lk RX3 11 TX3 0 := Or.inl (wG_of 153 (by decide +kernel) rfl)
theorem L_X3_16 : av_lk RX3 16 TX3 1 := Or.inl (wG_of 154 (by decide +kernel) rfl)
theorem L_X3_20 : av_lk RX3 20 TX3 2 := Or.inl (wG_of 155 (by decide +kernel) rfl)
theorem L_X3_24 : av_lk RX3 24 TX3 3 := Or.inl (wG_of 156 (by decide +kernel) rfl)
theorem L_X5_220 : av_lk RX5 220 TX3 3 := Or.inr ⟨RX5, wN_of 157 (by decide +kernel) rfl⟩
theorem L_X3_27 : av_lk RX3 27 TX3 4 := Or.inl (wG_of 158 (by decide +kernel) rfl)
theorem L_X5_217 : av_lk RX5 217 TX3 4 := Or.inr ⟨RX5, wN_of 159 (by decide +kernel) rfl⟩
theorem L_X5_12 : av_lk RX5 12 TX5 0 := Or.inl (wG_of 171 (by decide +kernel) rfl)
theorem L_X5_19 : av_lk RX5 19 TX5 1 := Or.inl (wG_of 172 (by decide +kernel) rfl)
theorem L_X5_26 : av_lk RX5 26 TX5 2 := Or.inl (wG_of 173 (by decide +kernel) rfl)
theorem L_X5_33 : av_lk RX5 33 TX5 3 := Or.inl (wG_of 174 (by decide +kernel) rfl)
theorem L_X6_7 : av_lk RX6 7 TX6 0 := Or.inl (wG_of 705 (by decide +kernel) rfl)
theorem L_X6_13 : av_lk RX6 13 TX6 1 := Or.inl (wG_of 706 (by decide +kernel) rfl)
theorem L_X6_38 : av_lk RX6 38 TX6 2 := Or.inl (wG_of 707 (by decide +kernel) rfl)
theorem L_X6_16 : av_lk RX6 16 TX6 3 := Or.inl (wG_of 708 (by decide +kernel) rfl)
theorem L_X6_133 : av_lk RX6 133 TX6 4 := Or.inl (wG_of 709 (by decide +kernel) rfl)
theorem L_X6_136 : av_lk RX6 136 TX6 5 := Or.inl (wG_of 710 (by decide +kernel) rfl)
theorem L_X6_19 : av_lk RX6 19 TX6 6 := Or.inl (wG_of 711 (by decide +kernel) rfl)
theorem L_X6_22 : av_lk RX6 22 TX6 7 := Or.inl (wG_of 712 (by decide +kernel) rfl)
theorem L_X6_25 : av_lk RX6 25 TX6 8 := Or.inl (wG_of 713 (by decide +kernel) rfl)
theorem L_X6_28 : av_lk RX6 28 TX6 9 := Or.inl (wG_of 714 (by decide +kernel) rfl)
theorem L_X6_31 : av_lk RX6 31 TX6 10 := Or.inl (wG_of 715 (by decide +kernel) rfl)
theorem L_X6_180 : av_lk RX6 180 TX6 11 := Or.inl (wG_of 716 (by decide +kernel) rfl)
theorem L_X6_183 : av_lk RX6 183 TX6 12 := Or.inl (wG_of 717 (by decide +kernel) rfl)
theorem U_X0_0 : u_lay RX0 TX0 0 ∈ wG := wG_of 123 (by decide +kernel) (by decide +kernel)
theorem U_X0_1 : u_lay RX0 TX0 1 ∈ wG := wG_of 125 (by decide +kernel) (by decide +kernel)
theorem U_X0_2 : u_lay RX0 TX0 2 ∈ wG := wG_of 127 (by decide +kernel) (by decide +kernel)
theorem C_X0 : av_Cl 0 RX0 TX0 3 tyX0 := ⟨rfl, fun w hw => by
  obtain ⟨k, hk, rfl⟩ := List.mem_map.mp hw
  have hk := List.mem_range.mp hk
  match k, hk with
  | 0, _ => exact U_X0_0
  | 1, _ => exact U_X0_1
  | 2, _ => exact U_X0_2
  | k + 3, h => exact absurd h (by omega), tyX0_ok, nmX0⟩
theorem U_X2_0 : u_lay RX2 TX2 0 ∈ wG := wG_of 139 (by decide +kernel) (by decide +kernel)
theorem U_X2_1 : u_lay RX2 TX2 1 ∈ wG := wG_of 141 (by decide +kernel) (by decide +kernel)
theorem C_X2 : av_Cl 1 RX2 TX2 2 tyX2 := ⟨rfl, fun w hw => by
  obtain ⟨k, hk, rfl⟩ := List.mem_map.mp hw
  have hk := List.mem_range.mp hk
  match k, hk with
  | 0, _ => exact U_X2_0
  | 1, _ => exact U_X2_1
  | k + 2, h => exact absurd h (by omega), tyX2_ok, nmX2⟩
theorem U_X3_0 : u_lay RX3 TX3 0 ∈ wG := wG_of 160 (by decide +kernel) (by decide +kernel)
theorem U_X3_1 : u_lay RX3 TX3 1 ∈ wG := wG_of 162 (by decide +kernel) (by decide +kernel)
theorem U_X3_2 : u_lay RX3 TX3 2 ∈ wG := wG_of 164 (by decide +kernel) (by decide +kernel)
theorem U_X3_3 : u_lay RX3 TX3 3 ∈ wG := wG_of 166 (by decide +kernel) (by decide +kernel)
theorem U_X3_4 : u_lay RX3 TX3 4 ∈ wG := wG_of 168 (by decide +kernel) (by decide +kernel)
theorem C_X3 : av_Cl 2 RX3 TX3 5 tyX3 := ⟨rfl, fun w hw => by
  obtain ⟨k, hk, rfl⟩ := List.mem_map.mp hw
  have hk := List.mem_range.mp hk
  match k, hk with
  | 0, _ => exact U_X3_0
  | 1, _ => exact U_X3_1
  | 2, _ => exact U_X3_2
  | 3, _ => exact U_X3_3
  | 4, _ => exact U_X3_4
  | k + 5, h => exact absurd h (by omega), tyX3_ok, nmX3⟩
theorem U_X4_0 : u_lay RX4 TX4 0 ∈ wG := wG_of 88 (by decide +kernel) (by decide +kernel)
theorem U_X4_1 : u_lay RX4 TX4 1 ∈ wG := wG_of 90 (by decide +kernel) (by decide +kernel)
theorem U_X4_2 : u_lay RX4 TX4 2 ∈ wG := wG_of 92 (by decide +kernel) (by decide +kernel)
theorem U_X4_3 : u_lay RX4 TX4 3 ∈ wG := wG_of 94 (by decide +kernel) (by decide +kernel)
theorem U_X4_4 : u_lay RX4 TX4 4 ∈ wG := wG_of 96 (by decide +kernel) (by decide +kernel)
theorem U_X4_5 : u_lay RX4 TX4 5 ∈ wG := wG_of 98 (by decide +kernel) (by decide +kernel)
theorem U_X4_6 : u_lay RX4 TX4 6 ∈ wG := wG_of 100 (by decide +kernel) (by decide +kernel)
theorem U_X4_7 : u_lay RX4 TX4 7 ∈ wG := wG_of 102 (by decide +kernel) (by decide +kernel)
theorem U_X4_8 : u_lay RX4 TX4 8 ∈ wG := wG_of 104 (by decide +kernel) (by decide +kernel)
theorem U_X4_9 : u_lay RX4 TX4 9 ∈ wG := wG_of 106 (by decide +kernel) (by decide +kernel)
theorem C_X4 : av_Cl 3 RX4 TX4 10 tyX4 := ⟨rfl, fun w hw => by
  obtain ⟨k, hk, rfl⟩ := List.mem_map.mp hw
  have hk := List.mem_range.mp hk
  match k, hk with
  | 0, _ => exact U_X4_0
  | 1, _ => exact U_X4_1
  | 2, _ => exact U_X4_2
  | 3, _ => exact U_X4_3
  | 4, _ => exact U_X4_4
  | 5, _ => exact U_X4_5
  | 6, _ => exact U_X4_6
  | 7, _ => exact U_X4_7
  | 8, _ => exact U_X4_8
  | 9, _ => exact U_X4_9
  | k + 10, h => exact absurd h (by omega), tyX4_ok, nmX4⟩
theorem U_X5_0 : u_lay RX5 TX5 0 ∈ wG := wG_of 175 (by decide +kernel) (by decide +kernel)
theorem U_X5_1 : u_lay RX5 TX5 1 ∈ wG := wG_of 177 (by decide +kernel) (by decide +kernel)
theorem U_X5_2 : u_lay RX5 TX5 2 ∈ wG := wG_of 179 (by decide +kernel) (by decide +kernel)
theorem U_X5_3 : u_lay RX5 TX5 3 ∈ wG := wG_of 181 (by decide +kernel) (by decide +kernel)
theorem C_X5 : av_Cl 4 RX5 TX5 4 tyX5 := ⟨rfl, fun w hw => by
  obtain ⟨k, hk, rfl⟩ := List.mem_map.mp hw
  have hk := List.mem_range.mp hk
  match k, hk with
  | 0, _ => exact U_X5_0
  | 1, _ => exact U_X5_1
  | 2, _ => exact U_X5_2
  | 3, _ => exact U_X5_3
  | k + 4, h => exact absurd h (by omega), tyX5_ok, nmX5⟩
theorem U_X6_0 : u_lay RX6 TX6 0 ∈ wG := wG_of 718 (by decide +kernel) (by decide +kernel)
theorem U_X6_1 : u_lay RX6 TX6 1 ∈ wG := wG_of 720 (by decide +kernel) (by decide +kernel)
theorem U_X6_2 : u_lay RX6 TX6 2 ∈ wG := wG_of 722 (by decide +kernel) (by decide +kernel)
theorem U_X6_3 : u_lay RX6 TX6 3 ∈ wG := wG_of 724 (by decide +kernel) (by decide +kernel)
theorem U_X6_4 : u_lay RX6 TX6 4 ∈ wG := wG_of 726 (by decide +kernel) (by decide +kernel)
theorem U_X6_5 : u_lay RX6 TX6 5 ∈ wG := wG_of 728 (by decide +kernel) (by decide +kernel)
theorem U_X6_6 : u_lay RX6 TX6 6 ∈ wG := wG_of 730 (by decide +kernel) (by decide +kernel)
theorem U_X6_7 : u_lay RX6 TX6 7 ∈ wG := wG_of 732 (by decide +kernel) (by decide +kernel)
theorem U_X6_8 : u_lay RX6 TX6 8 ∈ wG := wG_of 734 (by decide +kernel) (by decide +kernel)
theorem U_X6_9 : u_lay RX6 TX6 9 ∈ wG := wG_of 736 (by decide +kernel) (by decide +kernel)
theorem U_X6_10 : u_lay RX6 TX6 10 ∈ wG := wG_of 738 (by decide +kernel) (by decide +kernel)
theorem U_X6_11 : u_lay RX6 TX6 11 ∈ wG := wG_of 740 (by decide +kernel) (by decide +kernel)
theorem U_X6_12 : u_lay RX6 TX6 12 ∈ wG := wG_of 742 (by decide +kernel) (by decide +kernel)
theorem C_X6 : av_Cl 5 RX6 TX6 13 tyX6 := ⟨rfl, fun w hw => by
  obtain ⟨k, hk, rfl⟩ := List.mem_map.mp hw
  have hk := List.mem_range.mp hk
  match k, hk with
  | 0, _ => exact U_X6_0
  | 1, _ => exact U_X6_1
  | 2, _ => exact U_X6_2
  | 3, _ => exact U_X6_3
  | 4, _ => exact U_X6_4
  | 5, _ => exact U_X6_5
  | 6, _ => exact U_X6_6
  | 7, _ => exact U_X6_7
  | 8, _ => exact U_X6_8
  | 9, _ => exact U_X6_9
  | 10, _ => exact U_X6_10
  | 11, _ => exact U_X6_11
  | 12, _ => exact U_X6_12
  | k + 13, h => exact absurd h (by omega), tyX6_ok, nmX6⟩
theorem sh_st {j : Nat} (h : j < 9) : av_sh (7 * j) = av_st (7 * j) := by
  unfold av_sh
  rw [if_pos (by omega), if_pos (by omega)]
theorem sh_st1 {j : Nat} (h : j < 9) : av_sh (7 * j + 1) = .inr (.inl (0, 6)) := by
  unfold av_sh
  rw [if_pos (by omega)]
  simp only [show (7 * j + 1) % 7 = 1 by omega]
  rfl
theorem sh_st2 {j : Nat} (h : j < 9) : av_sh (7 * j + 2) = .inr (.inl (0, 60)) := by
  unfold av_sh
  rw [if_pos (by omega)]
  simp only [show (7 * j + 2) % 7 = 2 by omega]
  rfl
theorem sh_st3 {j : Nat} (h : j < 9) : av_sh (7 * j + 3) = .inr (.inl (0, 24)) := by
  unfold av_sh
  rw [if_pos (by omega)]
  simp only [show (7 * j + 3) % 7 = 3 by omega]
  rfl
theorem sh_st4 {j : Nat} (h : j < 9) : av_sh (7 * j + 4) = .inr (.inl (0, 24)) := by
  unfold av_sh
  rw [if_pos (by omega)]
  simp only [show (7 * j + 4) % 7 = 4 by omega]
  rfl
theorem sh_st5 {j : Nat} (h : j < 9) : av_sh (7 * j + 5) = .inr (.inl (0, 24)) := by
  unfold av_sh
  rw [if_pos (by omega)]
  simp only [show (7 * j + 5) % 7 = 5 by omega]
  rfl
theorem sh_st6 {j : Nat} (h : j < 9) : av_sh (7 * j + 6) = .inr (.inl (0, 24)) := by
  unfold av_sh
  rw [if_pos (by omega)]
  simp only [show (7 * j + 6) % 7 = 6 by omega]
  rfl
theorem sh_0 : av_sh 0 = .inl (3, [none, none, none, none, some 1, some 2, some 3, some 4, some 5, some 6]) := rfl
theorem sh_1 : av_sh 1 = .inr (.inl (0, 6)) := rfl
theorem sh_2 : av_sh 2 = .inr (.inl (0, 60)) := rfl
theorem sh_3 : av_sh 3 = .inr (.inl (0, 24)) := rfl
theorem sh_4 : av_sh 4 = .inr (.inl (0, 24)) := rfl
theorem sh_5 : av_sh 5 = .inr (.inl (0, 24)) := rfl
theorem sh_6 : av_sh 6 = .inr (.inl (0, 24)) := rfl
theorem sh_76 : av_sh 76 = .inr (.inl (0, 6)) := rfl
theorem sh_78 : av_sh 78 = .inr (.inl (0, 238)) := rfl
theorem sh_79 : av_sh 79 = .inr (.inl (0, 1904)) := rfl
theorem sh_80 : av_sh 80 = .inr (.inl (0, 40)) := rfl
theorem sh_81 : av_sh 81 = .inr (.inl (0, 360)) := rfl
theorem sh_82 : av_sh 82 = .inr (.inl (0, 6)) := rfl
theorem sh_83 : av_sh 83 = .inr (.inl (0, 6)) := rfl
theorem sh_84 : av_sh 84 = .inr (.inl (0, 6)) := rfl
theorem sh_85 : av_sh 85 = .inr (.inl (0, 6)) := rfl
theorem sh_70 : av_sh 70 = .inr (.inl (0, 60)) := rfl
theorem sh_71 : av_sh 71 = .inr (.inl (0, 60)) := rfl
theorem sh_72 : av_sh 72 = .inr (.inl (0, 60)) := rfl
theorem sh_73 : av_sh 73 = .inr (.inl (0, 60)) := rfl
theorem sh_74 : av_sh 74 = .inr (.inl (0, 60)) := rfl
theorem sh_75 : av_sh 75 = .inr (.inl (0, 60)) := rfl
theorem sh_tm {i : Nat} (h : i < 6) : av_sh (70 + i) = .inr (.inl (0, 60)) := by
  match i, h with
  | 0, _ => rfl
  | 1, _ => rfl
  | 2, _ => rfl
  | 3, _ => rfl
  | 4, _ => rfl
  | 5, _ => rfl
  | i + 6, h => exact absurd h (by omega)
theorem sh_63 : av_sh 63 = .inl (4, [some 0, some 64, some 66, some 68]) := rfl
theorem sh_64 : av_sh 64 = .inl (0, [some 65, none, none]) := rfl
theorem sh_65 : av_sh 65 = .inr (.inr (2, 8, fun i => 7 * i + 7)) := rfl
theorem sh_66 : av_sh 66 = .inl (1, [some 67, none]) := rfl
theorem sh_67 : av_sh 67 = .inr (.inl (1, 40)) := rfl
theorem sh_68 : av_sh 68 = .inl (2, [some 69, some 76, none, none, none]) := rfl
theorem sh_69 : av_sh 69 = .inr (.inr (3, 6, fun i => 70 + i)) := rfl
theorem sh_77 : av_sh 77 = .inl (5, [some 78, some 79, none, some 80, none, none, some 81, some 82, some 83, some 84, some 85, none, none]) := rfl
end
section
/-! ===== numbers, bits, folds; rules over them ===== -/
def b2i (p : Bool) : Int32 := bif p then nI 1 else nI 0
theorem b2i_t : b2i true = nI 1 := rfl
theorem b2i_f : b2i false = nI 0 := rfl
theorem b2i_narrow (p : Bool) : narrow .boolean (.int (b2i p)) = .int (b2i p) := by cases p <;> rfl
theorem b2i_eq0 {p : Bool} : b2i p = 0 ↔ p = false := by cases p <;> decide
theorem b2i_of {p : Bool} {c : Prop} [Decidable c] (h : p = decide c) : b2i p = if c then nI 1 else nI 0 := by
  subst h
  by_cases hc : c <;> simp [b2i, hc]
/-- bit k of x -/
def tb (x : Int32) (k : Nat) : Bool := x.toBitVec.getLsbD k
/-- the set of k alone -/
def bt (k : Nat) : Int32 := nI 1 <<< (nI k &&& 31)
def fo {α : Type} (n : Nat) (f : Nat → α → α) (a : α) : α := match n with
  | 0 => a
  | n + 1 => f n (fo n f a)
theorem fo_0 {α : Type} (f : Nat → α → α) (a : α) : fo 0 f a = a := rfl
theorem fo_s {α : Type} (n : Nat) (f : Nat → α → α) (a : α) : fo (n + 1) f a = f n (fo n f a) := rfl
theorem nI_inc (e : Nat) : nI e + Int32.ofInt 1 = nI (e + 1) := nI_1 e
theorem nI_inck (e k : Nat) : nI e + Int32.ofInt (k : Int) = nI (e + k) := by
  rw [show Int32.ofInt (k : Int) = nI k from rfl, nI_add]
theorem nI_dec {e : Nat} (h : 1 ≤ e) : nI e + Int32.ofInt (-1) = nI (e - 1) := by
  obtain ⟨e, rfl⟩ : ∃ j, e = j + 1 := ⟨e - 1, by omega⟩
  rw [show Int32.ofInt (-1) = -1 from rfl, pk_m1, Nat.add_sub_cancel]
theorem loop_up (P : Nat → Prop) (n : Nat) (hn : P n) (hs : ∀ k, k < n → P (k + 1) → P k) : P 0 := by
  have key : ∀ j, j ≤ n → P (n - j) := by
    intro j
    induction j with
    | zero => intro _; exact hn
    | succ j ih =>
      intro hj
      refine hs (n - (j + 1)) (by omega) ?_
      rw [show n - (j + 1) + 1 = n - j by omega]
      exact ih (by omega)
  have := key n (Nat.le_refl n)
  rwa [Nat.sub_self] at this
theorem loop_from (P : Nat → Prop) (i n : Nat) (hi : i ≤ n) (hn : P n) (hs : ∀ k, i ≤ k → k < n → P (k + 1) → P k) : P i := by
  have key : ∀ j, j ≤ n - i → P (n - j) := by
    intro j
    induction j with
    | zero => intro _; exact hn
    | succ j ih =>
      intro hj
      refine hs (n - (j + 1)) (by omega) (by omega) ?_
      rw [show n - (j + 1) + 1 = n - j by omega]
      exact ih (by omega)
  have := key (n - i) (Nat.le_refl _)
  rwa [show n - (n - i) = i by omega] at this
theorem leafI {Q : Option Value → av_S → Prop} {a b : Int32} {s t : av_S} (hQ : Q (some (.int a)) s) (h1 : b = a) (h2 : t = s) : Q (some (.int b)) t := by
  rw [h1, h2]; exact hQ
theorem leafV {Q : Option Value → av_S → Prop} {s t : av_S} (hQ : Q none s) (h2 : t = s) : Q none t := by
  rw [h2]; exact hQ
theorem av_set_set (σ : av_S) (k : Nat) (f g : Nat → Int32) : av_set (av_set σ k f) k g = av_set σ k g := by
  funext a; unfold av_set; split <;> rfl
theorem av_set_comm (σ : av_S) {k j : Nat} (f g : Nat → Int32) (h : k ≠ j) : av_set (av_set σ k f) j g = av_set (av_set σ j g) k f := by
  funext a; unfold av_set; (repeat' split) <;> first | rfl | (exfalso; omega)
theorem av_set_eq (σ : av_S) (k : Nat) (f : Nat → Int32) : av_set σ k f k = f := if_pos rfl
theorem av_set_ne (σ : av_S) {k j : Nat} (f : Nat → Int32) (h : j ≠ k) : av_set σ k f j = σ j := if_neg h
theorem av_set_self (σ : av_S) (k : Nat) : av_set σ k (σ k) = σ := by
  funext a; unfold av_set; split
  · rename_i h; rw [h]
  · rfl
section AvUtil
variable {l : Launch} {own : String} {cc : ByteArray} {nL : Nat} {ret : Option FieldType} {E : av_Ex} {d pc : Nat} {lv lv' : List (Nat × Value)} {st : List Value} {σ σ' : av_S} {Q : Option Value → av_S → Prop}
theorem ev_top {x v : Int32} (h : x = v) (k : av_Ev l own cc nL ret E d pc lv (.int v :: st) σ Q) : av_Ev l own cc nL ret E d pc lv (.int x :: st) σ Q := by rw [h]; exact k
theorem ev_st (h : σ = σ') (k : av_Ev l own cc nL ret E d pc lv st σ' Q) : av_Ev l own cc nL ret E d pc lv st σ Q := by rw [h]; exact k
theorem ev_iald {k n e : Nat} {v : Int32} (hd : decode cc pc = .ok (.iaload, 1)) (hk : k < 86) (hs : av_sh k = .inr (.inl (0, n))) (he : e < n) (hn : n ≤ 2000) (hv : σ k e = v)
    (kk : av_Ev l own cc nL ret E d (pc + 1) lv (.int v :: st) σ Q) : av_Ev l own cc nL ret E d pc lv (.int (nI e) :: .ref k :: st) σ Q := by
  subst hv
  refine ev_iaload hd hk hs (vp_in_nI he (by omega)) ?_
  rw [nI_clamp (by omega)]
  exact kk
theorem ev_iast {k n e : Nat} {x : Int32} (hd : decode cc pc = .ok (.iastore, 1)) (hk : k < 86) (hs : av_sh k = .inr (.inl (0, n))) (he : e < n) (hn : n ≤ 2000)
    (kk : av_Ev l own cc nL ret E d (pc + 1) lv st (av_set σ k (upd (σ k) e x)) Q) : av_Ev l own cc nL ret E d pc lv (.int x :: .int (nI e) :: .ref k :: st) σ Q := by
  refine ev_iastore hd hk hs (vp_in_nI he (by omega)) ?_
  rw [nI_clamp (by omega)]
  exact kk
theorem ev_cald {k n e : Nat} {v : Int32} (hd : decode cc pc = .ok (.caload, 1)) (hk : k < 86) (hs : av_sh k = .inr (.inl (1, n))) (he : e < n) (hn : n ≤ 2000) (hv : σ k e = v)
    (kk : av_Ev l own cc nL ret E d (pc + 1) lv (.int v :: st) σ Q) : av_Ev l own cc nL ret E d pc lv (.int (nI e) :: .ref k :: st) σ Q := by
  subst hv
  refine ev_caload hd hk hs (vp_in_nI he (by omega)) ?_
  rw [nI_clamp (by omega)]
  exact kk
theorem ev_cast {k n e : Nat} {x : Int32} (hd : decode cc pc = .ok (.castore, 1)) (hk : k < 86) (hs : av_sh k = .inr (.inl (1, n))) (he : e < n) (hn : n ≤ 2000) (hx : vp_nar .char x = x)
    (kk : av_Ev l own cc nL ret E d (pc + 1) lv st (av_set σ k (upd (σ k) e x)) Q) : av_Ev l own cc nL ret E d pc lv (.int x :: .int (nI e) :: .ref k :: st) σ Q := by
  refine ev_castore hd hk hs (vp_in_nI he (by omega)) ?_
  rw [nI_clamp (by omega), hx]
  exact kk
theorem ev_aald {k kd n e r : Nat} {f : Nat → Nat} (hd : decode cc pc = .ok (.aaload, 1)) (hk : k < 86) (hs : av_sh k = .inr (.inr (kd, n, f))) (hkd : kd = 2 ∨ kd = 3) (he : e < n) (hn : n ≤ 2000) (hr : f e = r)
    (kk : av_Ev l own cc nL ret E d (pc + 1) lv (.ref r :: st) σ Q) : av_Ev l own cc nL ret E d pc lv (.int (nI e) :: .ref k :: st) σ Q := by
  subst hr
  refine ev_aaload hd hk hs hkd (vp_in_nI he (by omega)) ?_
  rw [nI_clamp (by omega)]
  exact kk
theorem ev_ifb_eq {p : Bool} {off : Int} {tgt : Nat} (hd : decode cc pc = .ok (.ifCond .eq off, 3)) (ht : (pc : Int) + off = (tgt : Int)) (kt : p = false → av_Ev l own cc nL ret E d tgt lv st σ Q) (kf : p = true → av_Ev l own cc nL ret E d (pc + 3) lv st σ Q) : av_Ev l own cc nL ret E d pc lv (.int (b2i p) :: st) σ Q :=
  ev_if_eq hd ht (fun h => kt (b2i_eq0.mp h)) (fun h => kf (by cases p <;> first | rfl | exact absurd rfl h))
theorem ev_ifb_ne {p : Bool} {off : Int} {tgt : Nat} (hd : decode cc pc = .ok (.ifCond .ne off, 3)) (ht : (pc : Int) + off = (tgt : Int)) (kt : p = true → av_Ev l own cc nL ret E d tgt lv st σ Q) (kf : p = false → av_Ev l own cc nL ret E d (pc + 3) lv st σ Q) : av_Ev l own cc nL ret E d pc lv (.int (b2i p) :: st) σ Q :=
  ev_if_ne hd ht (fun h => kt (by cases p <;> first | rfl | exact absurd rfl h)) (fun h => kf (b2i_eq0.mp h))
theorem ev_ncmp_eq {a b : Nat} {off : Int} {tgt : Nat} (hd : decode cc pc = .ok (.if_icmp .eq off, 3)) (ht : (pc : Int) + off = (tgt : Int)) (ha : a < 2 ^ 31) (hb : b < 2 ^ 31) (kt : a = b → av_Ev l own cc nL ret E d tgt lv st σ Q) (kf : ¬ a = b → av_Ev l own cc nL ret E d (pc + 3) lv st σ Q) : av_Ev l own cc nL ret E d pc lv (.int (nI b) :: .int (nI a) :: st) σ Q :=
  ev_icmp_eq hd ht (fun h => kt ((nI_eq ha hb).mp h)) (fun h => kf (fun q => h ((nI_eq ha hb).mpr q)))
theorem ev_ncmp_ne {a b : Nat} {off : Int} {tgt : Nat} (hd : decode cc pc = .ok (.if_icmp .ne off, 3)) (ht : (pc : Int) + off = (tgt : Int)) (ha : a < 2 ^ 31) (hb : b < 2 ^ 31) (kt : ¬ a = b → av_Ev l own cc nL ret E d tgt lv st σ Q) (kf : a = b → av_Ev l own cc nL ret E d (pc + 3) lv st σ Q) : av_Ev l own cc nL ret E d pc lv (.int (nI b) :: .int (nI a) :: st) σ Q :=
  ev_icmp_ne hd ht (fun h => kt (fun q => h ((nI_eq ha hb).mpr q))) (fun h => kf ((nI_eq ha hb).mp h))
theorem ev_ncmp_lt {a b : Nat} {off : Int} {tgt : Nat} (hd : decode cc pc = .ok (.if_icmp .lt off, 3)) (ht : (pc : Int) + off = (tgt : Int)) (ha : a < 2 ^ 31) (hb : b < 2 ^ 31) (kt : a < b → av_Ev l own cc nL ret E d tgt lv st σ Q) (kf : ¬ a < b → av_Ev l own cc nL ret E d (pc + 3) lv st σ Q) : av_Ev l own cc nL ret E d pc lv (.int (nI b) :: .int (nI a) :: st) σ Q :=
  ev_icmp_lt hd ht (fun h => kt ((nI_ltI ha hb).mp h)) (fun h => kf (fun q => h ((nI_ltI ha hb).mpr q)))
theorem ev_ncmp_ge {a b : Nat} {off : Int} {tgt : Nat} (hd : decode cc pc = .ok (.if_icmp .ge off, 3)) (ht : (pc : Int) + off = (tgt : Int)) (ha : a < 2 ^ 31) (hb : b < 2 ^ 31) (kt : b ≤ a → av_Ev l own cc nL ret E d tgt lv st σ Q) (kf : ¬ b ≤ a → av_Ev l own cc nL ret E d (pc + 3) lv st σ Q) : av_Ev l own cc nL ret E d pc lv (.int (nI b) :: .int (nI a) :: st) σ Q :=
  ev_icmp_ge hd ht (fun h => kt ((nI_leI hb ha).mp h)) (fun h => kf (fun q => h ((nI_leI hb ha).mpr q)))
theorem ev_ncmp_gt {a b : Nat} {off : Int} {tgt : Nat} (hd : decode cc pc = .ok (.if_icmp .gt off, 3)) (ht : (pc : Int) + off = (tgt : Int)) (ha : a < 2 ^ 31) (hb : b < 2 ^ 31) (kt : b < a → av_Ev l own cc nL ret E d tgt lv st σ Q) (kf : ¬ b < a → av_Ev l own cc nL ret E d (pc + 3) lv st σ Q) : av_Ev l own cc nL ret E d pc lv (.int (nI b) :: .int (nI a) :: st) σ Q :=
  ev_icmp_gt hd ht (fun h => kt ((nI_ltI hb ha).mp h)) (fun h => kf (fun q => h ((nI_ltI hb ha).mpr q)))
theorem ev_ncmp_le {a b : Nat} {off : Int} {tgt : Nat} (hd : decode cc pc = .ok (.if_icmp .le off, 3)) (ht : (pc : Int) + off = (tgt : Int)) (ha : a < 2 ^ 31) (hb : b < 2 ^ 31) (kt : a ≤ b → av_Ev l own cc nL ret E d tgt lv st σ Q) (kf : ¬ a ≤ b → av_Ev l own cc nL ret E d (pc + 3) lv st σ Q) : av_Ev l own cc nL ret E d pc lv (.int (nI b) :: .int (nI a) :: st) σ Q :=
  ev_icmp_le hd ht (fun h => kt ((nI_leI ha hb).mp h)) (fun h => kf (fun q => h ((nI_leI ha hb).mpr q)))
theorem ev_nif_eq {a : Nat} {off : Int} {tgt : Nat} (hd : decode cc pc = .ok (.ifCond .eq off, 3)) (ht : (pc : Int) + off = (tgt : Int)) (ha : a < 2 ^ 31) (kt : a = 0 → av_Ev l own cc nL ret E d tgt lv st σ Q) (kf : ¬ a = 0 → av_Ev l own cc nL ret E d (pc + 3) lv st σ Q) : av_Ev l own cc nL ret E d pc lv (.int (nI a) :: st) σ Q :=
  ev_if_eq hd ht (fun h => kt ((nI_eq ha (by omega)).mp (h.trans nI_0.symm))) (fun h => kf (fun q => h (by rw [q]; exact nI_0)))
theorem ev_nif_ne {a : Nat} {off : Int} {tgt : Nat} (hd : decode cc pc = .ok (.ifCond .ne off, 3)) (ht : (pc : Int) + off = (tgt : Int)) (ha : a < 2 ^ 31) (kt : ¬ a = 0 → av_Ev l own cc nL ret E d tgt lv st σ Q) (kf : a = 0 → av_Ev l own cc nL ret E d (pc + 3) lv st σ Q) : av_Ev l own cc nL ret E d pc lv (.int (nI a) :: st) σ Q :=
  ev_if_ne hd ht (fun h => kt (fun q => h (by rw [q]; exact nI_0))) (fun h => kf ((nI_eq ha (by omega)).mp (h.trans nI_0.symm)))
theorem ev_nif_le {a : Nat} {off : Int} {tgt : Nat} (hd : decode cc pc = .ok (.ifCond .le off, 3)) (ht : (pc : Int) + off = (tgt : Int)) (ha : a < 2 ^ 31) (kt : a = 0 → av_Ev l own cc nL ret E d tgt lv st σ Q) (kf : ¬ a = 0 → av_Ev l own cc nL ret E d (pc + 3) lv st σ Q) : av_Ev l own cc nL ret E d pc lv (.int (nI a) :: st) σ Q :=
  ev_if_le hd ht (fun h => kt (by have := (nI_leI ha (show 0 < 2 ^ 31 by omega)).mp h; omega)) (fun h => kf (fun q => h (by rw [q]; exact nI_leI (by omega) (show 0 < 2 ^ 31 by omega) |>.mpr (Nat.le_refl 0))))
theorem ev_nif_lt {a : Nat} {off : Int} {tgt : Nat} (hd : decode cc pc = .ok (.ifCond .lt off, 3)) (ht : (pc : Int) + off = (tgt : Int)) (ha : a < 2 ^ 31) (kf : av_Ev l own cc nL ret E d (pc + 3) lv st σ Q) : av_Ev l own cc nL ret E d pc lv (.int (nI a) :: st) σ Q :=
  ev_if_lt hd ht (fun h => absurd h (nI_pos ha)) (fun _ => kf)
theorem ev_nif_ge {a : Nat} {off : Int} {tgt : Nat} (hd : decode cc pc = .ok (.ifCond .ge off, 3)) (ht : (pc : Int) + off = (tgt : Int)) (ha : a < 2 ^ 31) (kt : av_Ev l own cc nL ret E d tgt lv st σ Q) : av_Ev l own cc nL ret E d pc lv (.int (nI a) :: st) σ Q :=
  ev_if_ge hd ht (fun _ => kt) (fun h => absurd (nI_pos' ha) h)
theorem ev_max {index : Nat} {x y v : Int32} (hd : decode cc pc = .ok (.invokestatic index, 3)) (hL : Cond.methodLink own index Lib.Math.max.name ∈ wG) (hd1 : 1 ≤ d) (hrm : (st.map fun v => v.category).sum ≤ 8) (hv : (if x < y then y else x) = v) (k : av_Ev l own cc nL ret E d (pc + 3) lv (.int v :: st) σ Q) : av_Ev l own cc nL ret E d pc lv (.int y :: .int x :: st) σ Q := by
  subst hv
  intro X p e R s m args below meth c A cells slots Z F H locs ls hP hS hl
  have hR := F.2.2.2.2.2.2.2.2.2.2.2.1
  have hc := F.2.2.2.2.2.2.2.2.2.2.2.2.1
  exact va_mmax F.1 F.2.1 (by rw [F.2.2.1]; exact hl.1.symm) F.2.2.2.1 (F.2.2.2.2.1 _ hL) (F.2.2.2.2.1 _ W_max.1) (F.2.2.2.2.1 _ W_max.2.1) (F.2.2.2.2.1 _ W_max.2.2) (by omega) (by rw [av_cats]; omega) hc.1 hc.2 hd (k X p e R s m args below meth c A cells slots Z F H locs ls hP hS hl)
theorem ev_min {index : Nat} {x y v : Int32} (hd : decode cc pc = .ok (.invokestatic index, 3)) (hL : Cond.methodLink own index Lib.Math.min.name ∈ wG) (hd1 : 1 ≤ d) (hrm : (st.map fun v => v.category).sum ≤ 8) (hv : (if y < x then y else x) = v) (k : av_Ev l own cc nL ret E d (pc + 3) lv (.int v :: st) σ Q) : av_Ev l own cc nL ret E d pc lv (.int y :: .int x :: st) σ Q := by
  subst hv
  intro X p e R s m args below meth c A cells slots Z F H locs ls hP hS hl
  have hR := F.2.2.2.2.2.2.2.2.2.2.2.1
  have hc := F.2.2.2.2.2.2.2.2.2.2.2.2.1
  exact va_mmin F.1 F.2.1 (by rw [F.2.2.1]; exact hl.1.symm) F.2.2.2.1 (F.2.2.2.2.1 _ hL) (F.2.2.2.2.1 _ W_min.1) (F.2.2.2.2.1 _ W_min.2.1) (F.2.2.2.2.1 _ W_min.2.2) (by omega) (by rw [av_cats]; omega) hc.1 hc.2 hd (k X p e R s m args below meth c A cells slots Z F H locs ls hP hS hl)
end AvUtil
end
section
/-! ===== constants, and rules for them ===== -/
theorem K_J6_265 : Cond.constant RJ6 265 1431655765 ∈ wG := wG_of 320 (by decide +kernel) rfl
theorem K_J6_266 : Cond.constant RJ6 266 858993459 ∈ wG := wG_of 321 (by decide +kernel) rfl
theorem K_J6_267 : Cond.constant RJ6 267 252645135 ∈ wG := wG_of 322 (by decide +kernel) rfl
theorem K_J2_227 : Cond.constant RJ2 227 65536 ∈ wG := wG_of 542 (by decide +kernel) rfl
theorem K_J11_110 : Cond.constant RJ11 110 55232 ∈ wG := wG_of 581 (by decide +kernel) rfl
theorem K_J11_76 : Cond.constant RJ11 76 56320 ∈ wG := wG_of 585 (by decide +kernel) rfl
theorem ev_ldcw {l : Launch} {own : String} {cc : ByteArray} {nL : Nat} {ret : Option FieldType} {E : av_Ex} {d pc : Nat} {lv : List (Nat × Value)} {st : List Value} {σ : av_S} {Q : Option Value → av_S → Prop} {index : Nat} {v : Int32} (hd : decode cc pc = .ok (.ldc_w index, 3)) (hc : Cond.constant own index v ∈ wG) (k : av_Ev l own cc nL ret E d (pc + 3) lv (.int v :: st) σ Q) : av_Ev l own cc nL ret E d pc lv st σ Q :=
  fun X p e R s m args below meth c A cells slots Z F H locs ls hP hS hl => lv_ldcw F.1 F.2.1 F.2.2.2.1 (F.2.2.2.2.1 _ hc) hd (k X p e R s m args below meth c A cells slots Z F H locs ls hP hS hl)
theorem nI_min {a b : Nat} (ha : a < 2 ^ 31) (hb : b < 2 ^ 31) : (if nI b < nI a then nI b else nI a) = nI (min a b) := by
  by_cases h : b < a
  · rw [if_pos ((nI_ltI hb ha).mpr h), Nat.min_eq_right (by omega)]
  · rw [if_neg (fun q => h ((nI_ltI hb ha).mp q)), Nat.min_eq_left (by omega)]
theorem nI_max {a b : Nat} (ha : a < 2 ^ 31) (hb : b < 2 ^ 31) : (if nI a < nI b then nI b else nI a) = nI (max a b) := by
  by_cases h : a < b
  · rw [if_pos ((nI_ltI ha hb).mpr h), Nat.max_eq_right (by omega)]
  · rw [if_neg (fun q => h ((nI_ltI ha hb).mp q)), Nat.max_eq_left (by omega)]
def imax (x y : Int32) : Int32 := if x < y then y else x
def imin (x y : Int32) : Int32 := if y < x then y else x
end
section
/-! ===== bits (begun from kit/laws/BITS.to-paste) ===== -/
theorem tb_ext {x y : Int32} (h : ∀ i, i < 32 → tb x i = tb y i) : x = y := Int32.toBitVec_inj.mp (BitVec.eq_of_getLsbD_eq (fun i hi => h i hi))
theorem tb_or (x y : Int32) (i : Nat) : tb (x ||| y) i = (tb x i || tb y i) := by unfold tb; rw [Int32.toBitVec_or, BitVec.getLsbD_or]
theorem tb_and (x y : Int32) (i : Nat) : tb (x &&& y) i = (tb x i && tb y i) := by unfold tb; rw [Int32.toBitVec_and, BitVec.getLsbD_and]
theorem tb_xor (x y : Int32) (i : Nat) : tb (x ^^^ y) i = (tb x i ^^ tb y i) := by unfold tb; rw [Int32.toBitVec_xor, BitVec.getLsbD_xor]
theorem tb_big {x : Int32} {i : Nat} (h : 32 ≤ i) : tb x i = false := BitVec.getLsbD_of_ge _ _ h
theorem tb_m1 : ∀ i, i < 32 → tb (-1) i = true := by decide +kernel
theorem tb_0 (i : Nat) : tb 0 i = false := BitVec.getLsbD_zero
theorem tb_sl : ∀ n, n < 32 → ((nI n &&& 31).toBitVec.smod 32).toNat = n := by decide +kernel
theorem tb_shl (n : Nat) (hn : n < 32) (x : Int32) {i : Nat} (hi : i < 32) : tb (x <<< (nI n &&& 31)) i = (decide (n ≤ i) && tb x (i - n)) := by
  unfold tb
  rw [Int32.toBitVec_shiftLeft]
  show (x.toBitVec <<< ((nI n &&& 31).toBitVec.smod 32).toNat).getLsbD i = _
  rw [tb_sl n hn, BitVec.getLsbD_shiftLeft]
  rcases Nat.lt_or_ge i n with h | h
  · simp [h, Nat.not_le.mpr h]
  · simp [hi, h, Nat.not_lt.mpr h]
theorem tb_sshr (n : Nat) (hn : n < 32) (x : Int32) {i : Nat} (hi : i < 32) : tb (x >>> (nI n &&& 31)) i = if n + i < 32 then tb x (n + i) else tb x 31 := by
  unfold tb
  rw [Int32.toBitVec_shiftRight]
  show (x.toBitVec.sshiftRight ((nI n &&& 31).toBitVec.smod 32).toNat).getLsbD i = _
  rw [tb_sl n hn, BitVec.getLsbD_sshiftRight, BitVec.msb_eq_getLsbD_last]
  simp [hi]
theorem tb_bt {k : Nat} (hk : k < 32) (i : Nat) : tb (bt k) i = decide (i = k) := by
  by_cases hi : i < 32
  · have h : ∀ k, k < 32 → ∀ i, i < 32 → tb (bt k) i = decide (i = k) := by decide +kernel
    exact h k hk i hi
  · rw [tb_big (by omega)]
    simp; omega
theorem tb_not (x : Int32) {i : Nat} (hi : i < 32) : tb (x ^^^ (-1)) i = !tb x i := by
  rw [tb_xor, tb_m1 i hi]; cases tb x i <;> rfl
theorem tb_n1 (i : Nat) : tb (nI 1) i = decide (i = 0) := tb_bt (k := 0) (by decide) i
theorem hb_get {S : Int32} {k : Nat} (hk : k < 32) (i : Nat) : tb ((S >>> (nI k &&& 31)) &&& nI 1) i = (decide (i = 0) && tb S k) := by
  rw [tb_and, tb_n1]
  by_cases hi : i = 0
  · subst hi
    rw [tb_sshr k hk S (by decide), if_pos (by omega)]
    simp
  · simp [hi]
theorem hb_val {S : Int32} {k : Nat} (hk : k < 32) : (S >>> (nI k &&& 31)) &&& nI 1 = b2i (tb S k) := by
  apply tb_ext
  intro i _
  rw [hb_get hk]
  cases h : tb S k
  · rw [b2i_f, show nI 0 = 0 from rfl, tb_0]; simp
  · rw [b2i_t, tb_n1]; simp
theorem hb_f {S : Int32} {k : Nat} (hk : k < 32) (h : (S >>> (nI k &&& 31)) &&& nI 1 = 0) : tb S k = false := by
  rw [hb_val hk] at h; exact b2i_eq0.mp h
theorem hb_t {S : Int32} {k : Nat} (hk : k < 32) (h : ¬ (S >>> (nI k &&& 31)) &&& nI 1 = 0) : tb S k = true := by
  rw [hb_val hk] at h
  cases q : tb S k
  · rw [q] at h; exact absurd rfl h
  · rfl
/-- a set with a bit put or taken -/
def wb (S : Int32) (k : Nat) (p : Bool) : Int32 := bif p then S ||| bt k else S &&& (bt k ^^^ (-1))
theorem tb_wb {S : Int32} {k : Nat} (hk : k < 32) (p : Bool) {i : Nat} (hi : i < 32) : tb (wb S k p) i = if i = k then p else tb S i := by
  cases p
  · show tb (S &&& (bt k ^^^ (-1))) i = _
    rw [tb_and, tb_not _ hi, tb_bt hk]
    by_cases h : i = k <;> simp [h]
  · show tb (S ||| bt k) i = _
    rw [tb_or, tb_bt hk]
    by_cases h : i = k <;> simp [h]
/-- how many of the bits below n are in x -/
def cb (n : Nat) (x : Int32) : Nat := fo n (fun k c => c + (if tb x k then 1 else 0)) 0
theorem cb_s (n : Nat) (x : Int32) : cb (n + 1) x = cb n x + (if tb x n then 1 else 0) := rfl
theorem cb_le (n : Nat) (x : Int32) : cb n x ≤ n := by
  induction n with
  | zero => exact Nat.le_refl 0
  | succ n ih => rw [cb_s]; split <;> omega
theorem cb_congr {n : Nat} {x y : Int32} (h : ∀ i, i < n → tb x i = tb y i) : cb n x = cb n y := by
  induction n with
  | zero => rfl
  | succ n ih => rw [cb_s, cb_s, ih (fun i hi => h i (by omega)), h n (by omega)]
/-- x has no bit but those below n -/
def lo (n : Nat) (x : Int32) : Prop := ∀ i, n ≤ i → tb x i = false
theorem lo_ofNat {n : Nat} {x : Int32} (h : lo n x) (hn : n ≤ 31) : ∃ j, j < 2 ^ n ∧ x = nI j := by
  refine ⟨x.toBitVec.toNat, ?_, ?_⟩
  · have := BitVec.isLt x.toBitVec
    apply Nat.lt_pow_two_of_testBit
    intro i hi
    have h2 := h i hi
    unfold tb at h2
    rw [BitVec.testBit_toNat]
    exact h2
  · apply Int32.toBitVec_inj.mp
    show _ = BitVec.ofNat 32 _
    simp
/-- the JDK's count of bits -/
def jbc (x : Int32) : Int32 :=
  let u (a : Int32) (k : Nat) : Int32 := (a.toUInt32 >>> ((nI k).toUInt32 &&& Int32.toUInt32 31)).toInt32
  let a := x - (u x 1 &&& 1431655765)
  let b := (a &&& 858993459) + (u a 2 &&& 858993459)
  let c := (b + u b 4) &&& 252645135
  let e := c + u c 8
  let f := e + u e 16
  f &&& nI 63
theorem jbc_small : ∀ j, j < 1024 → jbc (nI j) = nI (cb 10 (nI j)) := by decide +kernel
theorem jbc_lo {x : Int32} (h : lo 10 x) : jbc x = nI (cb 10 x) := by
  obtain ⟨j, hj, rfl⟩ := lo_ofNat h (by decide)
  exact jbc_small j hj
theorem lo_or {n : Nat} {x y : Int32} (hx : lo n x) (hy : lo n y) : lo n (x ||| y) := fun i hi => by rw [tb_or, hx i hi, hy i hi]; rfl
theorem lo_and {n : Nat} {x y : Int32} (hx : lo n x) : lo n (x &&& y) := fun i hi => by rw [tb_and, hx i hi]; rfl
theorem lo_0 {n : Nat} : lo n (nI 0) := fun i _ => tb_0 i
theorem lo_bt {n k : Nat} (hk : k < 32) (h : k < n) : lo n (bt k) := fun i hi => by rw [tb_bt hk]; simp; omega
theorem lo_wb {n k : Nat} {x : Int32} (hk : k < 32) (h : k < n) (hx : lo n x) (p : Bool) : lo n (wb x k p) := fun i hi => by
  by_cases hi32 : i < 32
  · rw [tb_wb hk p hi32, if_neg (by omega)]; exact hx i hi
  · exact tb_big (by omega)
theorem lo_mono {n m : Nat} {x : Int32} (h : n ≤ m) (hx : lo n x) : lo m x := fun i hi => hx i (Nat.le_trans h hi)
theorem lo_ext {n : Nat} {x y : Int32} (hx : lo n x) (hy : lo n y) (h : ∀ i, i < n → tb x i = tb y i) : x = y := tb_ext (fun i _ => by
  by_cases hi : i < n
  · exact h i hi
  · rw [hx i (by omega), hy i (by omega)])
end
section
/-! ===== what the class's State does, in words of its arrays (L links, U times, M member sets, O operator sets, C times or modes of channels) ===== -/
def sv (c x : Int32) : Bool := decide (¬ x < 0 ∧ ¬ c ≤ x)
def lkL (L : Nat → Int32) (a b : Nat) (p : Bool) : Nat → Int32 := upd (upd L a (wb (L a) b p)) b (wb (upd L a (wb (L a) b p) b) a p)
def wn (L : Nat → Int32) (S : Int32) : Int32 := fo 6 (fun k a => bif tb S k then a ||| L k else a) S
def net (L : Nat → Int32) (s : Nat) : Int32 := fo 5 (fun _ r => wn L r) (bt s)
def us (U : Nat → Int32) (s n : Nat) : Bool := decide (¬ U (s * 10 + n) = -1)
def oI : Option Nat → Int32
  | none => -1
  | some k => nI k
def fnd : Nat → Nat → (Nat → Bool) → Option Nat
  | 0, _, _ => none
  | m + 1, k, p => bif p k then some k else fnd m (k + 1) p
theorem fnd_lt : ∀ {m k j : Nat} {p : Nat → Bool}, fnd m k p = some j → j < k + m ∧ p j = true
  | 0, k, j, p, h => by cases h
  | m + 1, k, j, p, h => by
    unfold fnd at h
    cases hp : p k with
    | true => rw [hp] at h; cases h; exact ⟨by omega, hp⟩
    | false =>
      rw [hp] at h
      have := fnd_lt (m := m) h
      exact ⟨by omega, this.2⟩
theorem fnd_go {N k : Nat} {p : Nat → Bool} (h : k < N) : fnd (N - k) k p = bif p k then some k else fnd (N - (k + 1)) (k + 1) p := by
  obtain ⟨m, hm⟩ : ∃ m, N - k = m + 1 := ⟨N - k - 1, by omega⟩
  rw [hm, show N - (k + 1) = m by omega]
  rfl
theorem nI_neg {e : Nat} {c : Int32} (h : e < 2 ^ 31) (hc : c < 0) : ¬ nI e = c := fun q => nI_pos h (by rw [q]; exact hc)
def hm (U : Nat → Int32) (S : Int32) (n : Nat) : Option Nat := fnd 6 0 (fun s => tb S s && us U s n)
theorem hm_lt {U : Nat → Int32} {S : Int32} {n j : Nat} (h : hm U S n = some j) : j < 6 := by
  have := (fnd_lt h).1; omega
/-- the time of the user with a nick in a network -/
def tn (U : Nat → Int32) (S : Int32) (n : Nat) : Int32 := match hm U S n with
  | none => -1
  | some k => U (k * 10 + n)
def nk (U : Nat → Int32) (S : Int32) : Int32 := fo 10 (fun n a => wb a n (hm U S n).isSome) (nI 0)
def cuN (U : Nat → Int32) (S : Int32) (s n c : Nat) : Nat := bif tb S s && us U s n then c + 1 else c
def cu (U : Nat → Int32) (S : Int32) : Nat := fo 6 (fun s c => fo 10 (fun n c => cuN U S s n c) c) 0
def cc4 (M : Nat → Int32) (s n : Nat) : Nat := fo 4 (fun ch c => bif tb (M (s * 4 + ch)) n then c + 1 else c) 0
def rmM (M : Nat → Int32) (s n ch : Nat) : Nat → Int32 := upd M (s * 4 + ch) (wb (M (s * 4 + ch)) n false)
def adM (M : Nat → Int32) (s n ch : Nat) : Nat → Int32 := upd M (s * 4 + ch) (wb (M (s * 4 + ch)) n true)
def rmA (M : Nat → Int32) (s n : Nat) : Nat → Int32 := fo 4 (fun ch M => rmM M s n ch) M
def cpM (n n2 s ch : Nat) (M : Nat → Int32) : Nat → Int32 := bif tb (M (s * 4 + ch)) n then adM M s n2 ch else M
theorem cpM_t {n n2 s ch : Nat} {M : Nat → Int32} (h : tb (M (s * 4 + ch)) n = true) : cpM n n2 s ch M = adM M s n2 ch := by unfold cpM; rw [h]; rfl
theorem cpM_f {n n2 s ch : Nat} {M : Nat → Int32} (h : tb (M (s * 4 + ch)) n = false) : cpM n n2 s ch M = M := by unfold cpM; rw [h]; rfl
def cpA (M : Nat → Int32) (s n n2 : Nat) : Nat → Int32 := fo 4 (fun ch M => cpM n n2 s ch M) M
def un (M : Nat → Int32) (S : Int32) (ch : Nat) : Int32 := fo 6 (fun s a => bif tb S s then a ||| M (s * 4 + ch) else a) (nI 0)
def soF (M : Nat → Int32) (S : Int32) (ch : Nat) (N : Int32) (s : Nat) (O : Nat → Int32) : Nat → Int32 := bif tb S s then upd O (s * 4 + ch) (M (s * 4 + ch) &&& N) else O
def so (M O : Nat → Int32) (S : Int32) (ch : Nat) (N : Int32) : Nat → Int32 := fo 6 (fun s O => soF M S ch N s O) O
def dsF (S : Int32) (ch : Nat) (v : Int32) (s : Nat) (C : Nat → Int32) : Nat → Int32 := bif tb S s then upd C (s * 4 + ch) v else C
def ds (C : Nat → Int32) (S : Int32) (ch : Nat) (v : Int32) : Nat → Int32 := fo 6 (fun s C => dsF S ch v s C) C
/-- a channel exists -/
def hc (L M : Nat → Int32) (s ch : Nat) : Bool := decide (¬ un M (net L s) ch = 0)
/-! ===== copies of states, the ring of them ===== -/
def cpN (r : Nat) : Nat := if r = 0 then 4 else if r = 1 then 6 else if r = 2 then 60 else 24
def cpS (σ : av_S) (a b : Nat) : av_S := fun c => if 7 * a ≤ c ∧ c < 7 * a + 7 then (fun i => if i < cpN (c - 7 * a) then σ (7 * b + (c - 7 * a)) i else σ c i) else σ c
def fl (f : Nat → Int32) (n : Nat) (v : Int32) : Nat → Int32 := fo n (fun k g => upd g k v) f
def nxt (j : Nat) : Nat := if j = 7 then 0 else j + 1
def prv (j : Nat) : Nat := if j = 0 then 7 else j - 1
def hkeep (σ : av_S) (j c : Nat) : av_S := fun k => if k < 7 then σ k else if k < 63 then cpS σ (j + 1) 0 k else if k = 64 then upd (upd (σ 64) 1 (nI (nxt j))) 2 (nI (min (c + 1) 8)) else σ k
def htake (σ : av_S) (j c : Nat) : av_S := fun k => if k < 7 then (fun i => if i < cpN k then σ (7 * (prv j + 1) + k) i else σ k i) else if k = 64 then upd (upd (σ 64) 1 (nI (prv j))) 2 (nI (c - 1)) else σ k
theorem hkeep_raw {σ : av_S} {j c : Nat} (hj : j < 8) : av_set (cpS σ (j + 1) 0) 64 (upd (upd (σ 64) 1 (nI (nxt j))) 2 (nI (min (c + 1) 8))) = hkeep σ j c := by
  funext k
  unfold av_set hkeep
  by_cases h64 : k = 64
  · subst h64; rfl
  · rw [if_neg h64]
    by_cases h7 : k < 7
    · rw [if_pos h7]; unfold cpS; rw [if_neg (by omega)]
    · rw [if_neg h7]
      by_cases h63 : k < 63
      · rw [if_pos h63]
      · rw [if_neg h63, if_neg h64]; unfold cpS; rw [if_neg (by omega)]
theorem htake_raw {σ : av_S} {j c : Nat} (hj : j < 8) : cpS (av_set σ 64 (upd (upd (σ 64) 1 (nI (prv j))) 2 (nI (c - 1)))) 0 (prv j + 1) = htake σ j c := by
  have hp : prv j < 8 := by unfold prv; split <;> omega
  funext k
  unfold cpS htake
  by_cases h7 : k < 7
  · rw [if_pos (by omega), if_pos h7]
    funext i
    rw [show k - 7 * 0 = k by omega]
    unfold av_set
    rw [if_neg (show ¬ 7 * (prv j + 1) + k = 64 by omega), if_neg (show ¬ k = 64 by omega)]
  · rw [if_neg (by omega), if_neg h7]
    unfold av_set
    rfl
/-- the messages of a burst of a server's network -/
def cmF (L M C : Nat → Int32) (s ch : Nat) (x : Int32) : Int32 := if jbc (un M (net L s) ch) ≤ 0 then x else x + (jbc (un M (net L s) ch) + jbc (C (s * 4 + ch)))
def cm (L U M C : Nat → Int32) (s : Nat) : Int32 := fo 4 (fun ch x => cmF L M C s ch x) (jbc (net L s) + nI (cu U (net L s)))
/-! ===== merging ===== -/
def srv (a b : Int32) : Int32 := if a = -1 ∨ b = -1 then imax a b else if a = b then -1 else imin a b
def ckF (U : Nat → Int32) (l r : Int32) (n c : Nat) : Nat := if tn U l n = -1 ∨ tn U r n = -1 then c else if srv (tn U l n) (tn U r n) = -1 then c + 2 else c + 1
def ck (U : Nat → Int32) (l r : Int32) : Nat := fo 10 (fun n c => ckF U l r n c) 0
def rmU (U : Nat → Int32) (s n : Nat) : Nat → Int32 := upd U (s * 10 + n) (-1)
abbrev av_T3 : Type := (Nat → Int32) × (Nat → Int32) × (Nat → Int32)
def rm3 (T : av_T3) (s n : Nat) : av_T3 := (rmU T.1 s n, rmA T.2.1 s n, rmA T.2.2 s n)
def sc3 (T : av_T3) (n a b : Nat) : av_T3 :=
  let s := srv (T.1 (a * 10 + n)) (T.1 (b * 10 + n))
  let T1 := if T.1 (a * 10 + n) = s then T else rm3 T a n
  if T.1 (b * 10 + n) = s then T1 else rm3 T1 b n
def sn3F (l r : Int32) (n : Nat) (T : av_T3) : av_T3 := match hm T.1 l n, hm T.1 r n with
  | some a, some b => sc3 T n a b
  | _, _ => T
def sn3 (l r : Int32) (T : av_T3) : av_T3 := fo 10 (fun n T => sn3F l r n T) T
end
section
/-! ===== the class's State: contracts ===== -/
set_option maxRecDepth 100000 in
set_option maxHeartbeats 1000000 in
theorem c_X5_hasBit {l : Launch} {σ : av_S} (S : Int32) (k : Nat) (hk : k < 32) : av_M l RX5 cX5_hasBit 2 (some .boolean) 0 [.int S, .int (nI k)] σ (some (.int (b2i (tb S k)))) σ := by
  intro Q hQ
  show av_Ev l RX5 cX5_hasBit 2 (some .boolean) av_E0 0 0 [(0, .int S), (1, .int (nI k))] [] σ Q
  refine ev_iload_n dX5_hasBit_0 rfl 0 rfl ?_
  refine ev_iload_n dX5_hasBit_1 rfl 1 rfl ?_
  refine ev_ishr dX5_hasBit_2 ?_
  refine ev_iconst dX5_hasBit_3 (v := nI 1) (by decide) ?_
  refine ev_iand dX5_hasBit_4 ?_
  refine ev_if_eq (tgt := 12) dX5_hasBit_5 (by decide) (fun h5 => ?_) (fun h5 => ?_)
  · refine ev_iconst dX5_hasBit_12 (v := nI 0) (by decide) ?_
    exact ev_ireturn dX5_hasBit_13 rfl (by decide) (leafI hQ (by first | (rw [hb_t (by omega) (by assumption)]; rfl) | (rw [hb_f (by omega) (by assumption)]; rfl)) rfl)
  · refine ev_iconst dX5_hasBit_8 (v := nI 1) (by decide) ?_
    refine ev_goto (tgt := 13) dX5_hasBit_9 (by decide) ?_
    exact ev_ireturn dX5_hasBit_13 rfl (by decide) (leafI hQ (by first | (rw [hb_t (by omega) (by assumption)]; rfl) | (rw [hb_f (by omega) (by assumption)]; rfl)) rfl)

set_option maxRecDepth 100000 in
set_option maxHeartbeats 1000000 in
theorem c_X5_withBit {l : Launch} {σ : av_S} (S : Int32) (k : Nat) (p : Bool) (hk : k < 32) : av_M l RX5 cX5_withBit 3 (some .int) 0 [.int S, .int (nI k), .int (b2i p)] σ (some (.int (wb S k p))) σ := by
  intro Q hQ
  show av_Ev l RX5 cX5_withBit 3 (some .int) av_E0 0 0 [(0, .int S), (1, .int (nI k)), (2, .int (b2i p))] [] σ Q
  refine ev_iload_n dX5_withBit_0 rfl 2 rfl ?_
  refine ev_ifb_eq (tgt := 12) dX5_withBit_1 (by decide) (fun h1 => ?_) (fun h1 => ?_)
  · refine ev_iload_n dX5_withBit_12 rfl 0 rfl ?_
    refine ev_iconst dX5_withBit_13 (v := nI 1) (by decide) ?_
    refine ev_iload_n dX5_withBit_14 rfl 1 rfl ?_
    refine ev_ishl dX5_withBit_15 ?_
    refine ev_top (v := bt k) rfl ?_
    refine ev_iconst dX5_withBit_16 (v := (-1)) (by decide) ?_
    refine ev_ixor dX5_withBit_17 ?_
    refine ev_iand dX5_withBit_18 ?_
    exact ev_ireturn dX5_withBit_19 rfl rfl (leafI hQ (by simp [wb, h1]) rfl)
  · refine ev_iload_n dX5_withBit_4 rfl 0 rfl ?_
    refine ev_iconst dX5_withBit_5 (v := nI 1) (by decide) ?_
    refine ev_iload_n dX5_withBit_6 rfl 1 rfl ?_
    refine ev_ishl dX5_withBit_7 ?_
    refine ev_top (v := bt k) rfl ?_
    refine ev_ior dX5_withBit_8 ?_
    refine ev_goto (tgt := 19) dX5_withBit_9 (by decide) ?_
    exact ev_ireturn dX5_withBit_19 rfl rfl (leafI hQ (by simp [wb, h1]) rfl)

set_option maxRecDepth 100000 in
set_option maxHeartbeats 1000000 in
theorem c_X5_isNick {l : Launch} {σ : av_S} (x : Int32)  : av_M l RX5 cX5_isNick 1 (some .boolean) 0 [.int x] σ (some (.int (b2i (sv (nI 10) x)))) σ := by
  intro Q hQ
  show av_Ev l RX5 cX5_isNick 1 (some .boolean) av_E0 0 0 [(0, .int x)] [] σ Q
  refine ev_iload_n dX5_isNick_0 rfl 0 rfl ?_
  refine ev_if_lt (tgt := 14) dX5_isNick_1 (by decide) (fun h1 => ?_) (fun h1 => ?_)
  · refine ev_iconst dX5_isNick_14 (v := nI 0) (by decide) ?_
    exact ev_ireturn dX5_isNick_15 rfl (by decide) (leafI hQ (by simp [b2i, sv, h1]) rfl)
  · refine ev_iload_n dX5_isNick_4 rfl 0 rfl ?_
    refine ev_bipush dX5_isNick_5 (v := nI 10) (by decide) ?_
    refine ev_icmp_ge (tgt := 14) dX5_isNick_7 (by decide) (fun h7 => ?_) (fun h7 => ?_)
    · refine ev_iconst dX5_isNick_14 (v := nI 0) (by decide) ?_
      exact ev_ireturn dX5_isNick_15 rfl (by decide) (leafI hQ (by simp [b2i, sv, h1, h7]) rfl)
    · refine ev_iconst dX5_isNick_10 (v := nI 1) (by decide) ?_
      refine ev_goto (tgt := 15) dX5_isNick_11 (by decide) ?_
      exact ev_ireturn dX5_isNick_15 rfl (by decide) (leafI hQ (by simp [b2i, sv, h1, h7]) rfl)

set_option maxRecDepth 100000 in
set_option maxHeartbeats 1000000 in
theorem c_X5_isChannel {l : Launch} {σ : av_S} (x : Int32)  : av_M l RX5 cX5_isChannel 1 (some .boolean) 0 [.int x] σ (some (.int (b2i (sv (nI 4) x)))) σ := by
  intro Q hQ
  show av_Ev l RX5 cX5_isChannel 1 (some .boolean) av_E0 0 0 [(0, .int x)] [] σ Q
  refine ev_iload_n dX5_isChannel_0 rfl 0 rfl ?_
  refine ev_if_lt (tgt := 13) dX5_isChannel_1 (by decide) (fun h1 => ?_) (fun h1 => ?_)
  · refine ev_iconst dX5_isChannel_13 (v := nI 0) (by decide) ?_
    exact ev_ireturn dX5_isChannel_14 rfl (by decide) (leafI hQ (by simp [b2i, sv, h1]) rfl)
  · refine ev_iload_n dX5_isChannel_4 rfl 0 rfl ?_
    refine ev_iconst dX5_isChannel_5 (v := nI 4) (by decide) ?_
    refine ev_icmp_ge (tgt := 13) dX5_isChannel_6 (by decide) (fun h6 => ?_) (fun h6 => ?_)
    · refine ev_iconst dX5_isChannel_13 (v := nI 0) (by decide) ?_
      exact ev_ireturn dX5_isChannel_14 rfl (by decide) (leafI hQ (by simp [b2i, sv, h1, h6]) rfl)
    · refine ev_iconst dX5_isChannel_9 (v := nI 1) (by decide) ?_
      refine ev_goto (tgt := 14) dX5_isChannel_10 (by decide) ?_
      exact ev_ireturn dX5_isChannel_14 rfl (by decide) (leafI hQ (by simp [b2i, sv, h1, h6]) rfl)

set_option maxRecDepth 100000 in
set_option maxHeartbeats 1000000 in
theorem c_X4_userCell {l : Launch} {σ : av_S} (s : Nat) (n : Nat)  : av_M l RX4 cX4_userCell 2 (some .int) 0 [.int (nI s), .int (nI n)] σ (some (.int (nI (s * 10 + n)))) σ := by
  intro Q hQ
  show av_Ev l RX4 cX4_userCell 2 (some .int) av_E0 0 0 [(0, .int (nI s)), (1, .int (nI n))] [] σ Q
  refine ev_iload_n dX4_userCell_0 rfl 0 rfl ?_
  refine ev_bipush dX4_userCell_1 (v := nI 10) (by decide) ?_
  refine ev_imul dX4_userCell_3 ?_
  refine ev_top (v := nI (s * 10)) (pk_mul _ _) ?_
  refine ev_iload_n dX4_userCell_4 rfl 1 rfl ?_
  refine ev_iadd dX4_userCell_5 ?_
  refine ev_top (v := nI (s * 10 + n)) (nI_add _ _) ?_
  exact ev_ireturn dX4_userCell_6 rfl rfl (leafI hQ rfl rfl)

set_option maxRecDepth 100000 in
set_option maxHeartbeats 1000000 in
theorem c_X4_channelCell {l : Launch} {σ : av_S} (s : Nat) (ch : Nat)  : av_M l RX4 cX4_channelCell 2 (some .int) 0 [.int (nI s), .int (nI ch)] σ (some (.int (nI (s * 4 + ch)))) σ := by
  intro Q hQ
  show av_Ev l RX4 cX4_channelCell 2 (some .int) av_E0 0 0 [(0, .int (nI s)), (1, .int (nI ch))] [] σ Q
  refine ev_iload_n dX4_channelCell_0 rfl 0 rfl ?_
  refine ev_iconst dX4_channelCell_1 (v := nI 4) (by decide) ?_
  refine ev_imul dX4_channelCell_2 ?_
  refine ev_top (v := nI (s * 4)) (pk_mul _ _) ?_
  refine ev_iload_n dX4_channelCell_3 rfl 1 rfl ?_
  refine ev_iadd dX4_channelCell_4 ?_
  refine ev_top (v := nI (s * 4 + ch)) (nI_add _ _) ?_
  exact ev_ireturn dX4_channelCell_5 rfl rfl (leafI hQ rfl rfl)

set_option maxRecDepth 100000 in
set_option maxHeartbeats 1000000 in
theorem c_X4_hasServer {l : Launch} {σ : av_S} (x : Int32)  : av_M l RX4 cX4_hasServer 2 (some .boolean) 0 [.ref 0, .int x] σ (some (.int (b2i (sv (σ 0 0) x)))) σ := by
  intro Q hQ
  show av_Ev l RX4 cX4_hasServer 2 (some .boolean) av_E0 0 0 [(0, .ref 0), (1, .int x)] [] σ Q
  refine ev_iload_n dX4_hasServer_0 rfl 1 rfl ?_
  refine ev_if_lt (tgt := 16) dX4_hasServer_1 (by decide) (fun h1 => ?_) (fun h1 => ?_)
  · refine ev_iconst dX4_hasServer_16 (v := nI 0) (by decide) ?_
    exact ev_ireturn dX4_hasServer_17 rfl (by decide) (leafI hQ (by simp [b2i, sv, h1]) rfl)
  · refine ev_iload_n dX4_hasServer_4 rfl 1 rfl ?_
    refine ev_aload_n dX4_hasServer_5 rfl 0 rfl ?_
    refine ev_getI dX4_hasServer_6 C_X4 L_X4_9 (by decide) (by decide) sh_0 rfl ?_
    refine ev_icmp_ge (tgt := 16) dX4_hasServer_9 (by decide) (fun h9 => ?_) (fun h9 => ?_)
    · refine ev_iconst dX4_hasServer_16 (v := nI 0) (by decide) ?_
      exact ev_ireturn dX4_hasServer_17 rfl (by decide) (leafI hQ (by simp [b2i, sv, h1, h9]) rfl)
    · refine ev_iconst dX4_hasServer_12 (v := nI 1) (by decide) ?_
      refine ev_goto (tgt := 17) dX4_hasServer_13 (by decide) ?_
      exact ev_ireturn dX4_hasServer_17 rfl (by decide) (leafI hQ (by simp [b2i, sv, h1, h9]) rfl)

set_option maxRecDepth 100000 in
set_option maxHeartbeats 1000000 in
theorem c_X4_hasServers {l : Launch} {σ : av_S} (x : Int32) (y : Int32)  : av_M l RX4 cX4_hasServers 3 (some .boolean) 1 [.ref 0, .int x, .int y] σ (some (.int (b2i (sv (σ 0 0) x && sv (σ 0 0) y)))) σ := by
  intro Q hQ
  show av_Ev l RX4 cX4_hasServers 3 (some .boolean) av_E0 1 0 [(0, .ref 0), (1, .int x), (2, .int y)] [] σ Q
  refine ev_aload_n dX4_hasServers_0 rfl 0 rfl ?_
  refine ev_iload_n dX4_hasServers_1 rfl 1 rfl ?_
  refine ev_callVi (x := b2i (sv (σ 0 0) x)) dX4_hasServers_2 M_X4_55 Y_X4_hasServer [.int x] (c_X4_hasServer x ) (by decide) (Nat.le_of_ble_eq_true rfl) (by decide) sh_0 rfl rfl rfl (Nat.le_of_ble_eq_true rfl) ?_
  refine ev_ifb_eq (tgt := 20) dX4_hasServers_5 (by decide) (fun h5 => ?_) (fun h5 => ?_)
  · refine ev_iconst dX4_hasServers_20 (v := nI 0) (by decide) ?_
    exact ev_ireturn dX4_hasServers_21 rfl (by decide) (leafI hQ (by simp [b2i, h5]) rfl)
  · refine ev_aload_n dX4_hasServers_8 rfl 0 rfl ?_
    refine ev_iload_n dX4_hasServers_9 rfl 2 rfl ?_
    refine ev_callVi (x := b2i (sv (σ 0 0) y)) dX4_hasServers_10 M_X4_55 Y_X4_hasServer [.int y] (c_X4_hasServer y ) (by decide) (Nat.le_of_ble_eq_true rfl) (by decide) sh_0 rfl rfl rfl (Nat.le_of_ble_eq_true rfl) ?_
    refine ev_ifb_eq (tgt := 20) dX4_hasServers_13 (by decide) (fun h13 => ?_) (fun h13 => ?_)
    · refine ev_iconst dX4_hasServers_20 (v := nI 0) (by decide) ?_
      exact ev_ireturn dX4_hasServers_21 rfl (by decide) (leafI hQ (by simp [b2i, h5, h13]) rfl)
    · refine ev_iconst dX4_hasServers_16 (v := nI 1) (by decide) ?_
      refine ev_goto (tgt := 21) dX4_hasServers_17 (by decide) ?_
      exact ev_ireturn dX4_hasServers_21 rfl (by decide) (leafI hQ (by simp [b2i, h5, h13]) rfl)

set_option maxRecDepth 100000 in
set_option maxHeartbeats 1000000 in
theorem c_X4_areLinked {l : Launch} {σ : av_S} (a : Nat) (b : Nat) (ha : a < 6) (hb : b < 32) : av_M l RX4 cX4_areLinked 3 (some .boolean) 1 [.ref 0, .int (nI a), .int (nI b)] σ (some (.int (b2i (tb (σ 1 a) b)))) σ := by
  intro Q hQ
  show av_Ev l RX4 cX4_areLinked 3 (some .boolean) av_E0 1 0 [(0, .ref 0), (1, .int (nI a)), (2, .int (nI b))] [] σ Q
  refine ev_aload_n dX4_areLinked_0 rfl 0 rfl ?_
  refine ev_getR dX4_areLinked_1 C_X4 L_X4_24 (by decide) (by decide) sh_0 rfl ?_
  refine ev_iload_n dX4_areLinked_4 rfl 1 rfl ?_
  refine ev_iald (e := a) (v := σ 1 a) dX4_areLinked_5 (by decide) sh_1 (by omega) (by decide) rfl ?_
  refine ev_iload_n dX4_areLinked_6 rfl 2 rfl ?_
  refine ev_callSi (x := b2i (tb (σ 1 a) b)) dX4_areLinked_7 (Or.inr M_X4_59) Y_X5_hasBit [.int (σ 1 a), .int (nI b)] (c_X5_hasBit (σ 1 a) b (by omega)) (by decide) (Nat.le_of_ble_eq_true rfl) rfl rfl (Nat.le_of_ble_eq_true rfl) ?_
  exact ev_ireturn dX4_areLinked_10 rfl (b2i_narrow _) (leafI hQ rfl rfl)

set_option maxRecDepth 100000 in
set_option maxHeartbeats 1000000 in
theorem c_X4_link {l : Launch} {σ : av_S} (a : Nat) (b : Nat) (ha : a < 6) (hb : b < 6) : av_M l RX4 cX4_link 3 none 1 [.ref 0, .int (nI a), .int (nI b)] σ none (av_set σ 1 (lkL (σ 1) a b true)) := by
  intro Q hQ
  show av_Ev l RX4 cX4_link 3 none av_E0 1 0 [(0, .ref 0), (1, .int (nI a)), (2, .int (nI b))] [] σ Q
  refine ev_aload_n dX4_link_0 rfl 0 rfl ?_
  refine ev_getR dX4_link_1 C_X4 L_X4_24 (by decide) (by decide) sh_0 rfl ?_
  refine ev_iload_n dX4_link_4 rfl 1 rfl ?_
  refine ev_aload_n dX4_link_5 rfl 0 rfl ?_
  refine ev_getR dX4_link_6 C_X4 L_X4_24 (by decide) (by decide) sh_0 rfl ?_
  refine ev_iload_n dX4_link_9 rfl 1 rfl ?_
  refine ev_iald (e := a) (v := σ 1 a) dX4_link_10 (by decide) sh_1 (by omega) (by decide) rfl ?_
  refine ev_iload_n dX4_link_11 rfl 2 rfl ?_
  refine ev_iconst dX4_link_12 (v := nI 1) (by decide) ?_
  refine ev_callSi (x := wb (σ 1 a) b true) dX4_link_13 (Or.inr M_X4_63) Y_X5_withBit [.int (σ 1 a), .int (nI b), .int (b2i true)] (c_X5_withBit (σ 1 a) b true (by omega)) (by decide) (Nat.le_of_ble_eq_true rfl) rfl rfl (Nat.le_of_ble_eq_true rfl) ?_
  refine ev_iast (e := a) dX4_link_16 (by decide) sh_1 (by omega) (by decide) ?_
  refine ev_aload_n dX4_link_17 rfl 0 rfl ?_
  refine ev_getR dX4_link_18 C_X4 L_X4_24 (by decide) (by decide) sh_0 rfl ?_
  refine ev_iload_n dX4_link_21 rfl 2 rfl ?_
  refine ev_aload_n dX4_link_22 rfl 0 rfl ?_
  refine ev_getR dX4_link_23 C_X4 L_X4_24 (by decide) (by decide) sh_0 rfl ?_
  refine ev_iload_n dX4_link_26 rfl 2 rfl ?_
  refine ev_iald (e := b) (v := (upd (σ 1) a (wb (σ 1 a) b true)) b) dX4_link_27 (by decide) sh_1 (by omega) (by decide) (by first | rfl | (simp only [av_set, cpS]; (repeat' split) <;> first | rfl | (exfalso; omega))) ?_
  refine ev_iload_n dX4_link_28 rfl 1 rfl ?_
  refine ev_iconst dX4_link_29 (v := nI 1) (by decide) ?_
  refine ev_callSi (x := wb ((upd (σ 1) a (wb (σ 1 a) b true)) b) a true) dX4_link_30 (Or.inr M_X4_63) Y_X5_withBit [.int ((upd (σ 1) a (wb (σ 1 a) b true)) b), .int (nI a), .int (b2i true)] (c_X5_withBit ((upd (σ 1) a (wb (σ 1 a) b true)) b) a true (by omega)) (by decide) (Nat.le_of_ble_eq_true rfl) rfl rfl (Nat.le_of_ble_eq_true rfl) ?_
  refine ev_iast (e := b) dX4_link_33 (by decide) sh_1 (by omega) (by decide) ?_
  refine ev_st (σ' := av_set σ 1 (upd (upd (σ 1) a (wb (σ 1 a) b true)) b (wb ((upd (σ 1) a (wb (σ 1 a) b true)) b) a true))) (by first | rfl | exact av_set_set _ _ _ _ | (funext a; unfold av_set; (repeat' split) <;> first | rfl | (exfalso; omega)) | (funext a; simp only [av_set, cpS]; (repeat' split) <;> first | rfl | (exfalso; omega))) ?_
  exact ev_return dX4_link_34 rfl (leafV hQ rfl)

set_option maxRecDepth 100000 in
set_option maxHeartbeats 1000000 in
theorem c_X4_unlink {l : Launch} {σ : av_S} (a : Nat) (b : Nat) (ha : a < 6) (hb : b < 6) : av_M l RX4 cX4_unlink 3 none 1 [.ref 0, .int (nI a), .int (nI b)] σ none (av_set σ 1 (lkL (σ 1) a b false)) := by
  intro Q hQ
  show av_Ev l RX4 cX4_unlink 3 none av_E0 1 0 [(0, .ref 0), (1, .int (nI a)), (2, .int (nI b))] [] σ Q
  refine ev_aload_n dX4_unlink_0 rfl 0 rfl ?_
  refine ev_getR dX4_unlink_1 C_X4 L_X4_24 (by decide) (by decide) sh_0 rfl ?_
  refine ev_iload_n dX4_unlink_4 rfl 1 rfl ?_
  refine ev_aload_n dX4_unlink_5 rfl 0 rfl ?_
  refine ev_getR dX4_unlink_6 C_X4 L_X4_24 (by decide) (by decide) sh_0 rfl ?_
  refine ev_iload_n dX4_unlink_9 rfl 1 rfl ?_
  refine ev_iald (e := a) (v := σ 1 a) dX4_unlink_10 (by decide) sh_1 (by omega) (by decide) rfl ?_
  refine ev_iload_n dX4_unlink_11 rfl 2 rfl ?_
  refine ev_iconst dX4_unlink_12 (v := nI 0) (by decide) ?_
  refine ev_callSi (x := wb (σ 1 a) b false) dX4_unlink_13 (Or.inr M_X4_63) Y_X5_withBit [.int (σ 1 a), .int (nI b), .int (b2i false)] (c_X5_withBit (σ 1 a) b false (by omega)) (by decide) (Nat.le_of_ble_eq_true rfl) rfl rfl (Nat.le_of_ble_eq_true rfl) ?_
  refine ev_iast (e := a) dX4_unlink_16 (by decide) sh_1 (by omega) (by decide) ?_
  refine ev_aload_n dX4_unlink_17 rfl 0 rfl ?_
  refine ev_getR dX4_unlink_18 C_X4 L_X4_24 (by decide) (by decide) sh_0 rfl ?_
  refine ev_iload_n dX4_unlink_21 rfl 2 rfl ?_
  refine ev_aload_n dX4_unlink_22 rfl 0 rfl ?_
  refine ev_getR dX4_unlink_23 C_X4 L_X4_24 (by decide) (by decide) sh_0 rfl ?_
  refine ev_iload_n dX4_unlink_26 rfl 2 rfl ?_
  refine ev_iald (e := b) (v := (upd (σ 1) a (wb (σ 1 a) b false)) b) dX4_unlink_27 (by decide) sh_1 (by omega) (by decide) (by first | rfl | (simp only [av_set, cpS]; (repeat' split) <;> first | rfl | (exfalso; omega))) ?_
  refine ev_iload_n dX4_unlink_28 rfl 1 rfl ?_
  refine ev_iconst dX4_unlink_29 (v := nI 0) (by decide) ?_
  refine ev_callSi (x := wb ((upd (σ 1) a (wb (σ 1 a) b false)) b) a false) dX4_unlink_30 (Or.inr M_X4_63) Y_X5_withBit [.int ((upd (σ 1) a (wb (σ 1 a) b false)) b), .int (nI a), .int (b2i false)] (c_X5_withBit ((upd (σ 1) a (wb (σ 1 a) b false)) b) a false (by omega)) (by decide) (Nat.le_of_ble_eq_true rfl) rfl rfl (Nat.le_of_ble_eq_true rfl) ?_
  refine ev_iast (e := b) dX4_unlink_33 (by decide) sh_1 (by omega) (by decide) ?_
  refine ev_st (σ' := av_set σ 1 (upd (upd (σ 1) a (wb (σ 1 a) b false)) b (wb ((upd (σ 1) a (wb (σ 1 a) b false)) b) a false))) (by first | rfl | exact av_set_set _ _ _ _ | (funext a; unfold av_set; (repeat' split) <;> first | rfl | (exfalso; omega)) | (funext a; simp only [av_set, cpS]; (repeat' split) <;> first | rfl | (exfalso; omega))) ?_
  exact ev_return dX4_unlink_34 rfl (leafV hQ rfl)

set_option maxRecDepth 100000 in
set_option maxHeartbeats 1000000 in
theorem c_X4_withNeighbours {l : Launch} {σ : av_S} (S : Int32)  : av_M l RX4 cX4_withNeighbours 4 (some .int) 1 [.ref 0, .int S] σ (some (.int (wn (σ 1) S))) σ := by
  intro Q hQ
  show av_Ev l RX4 cX4_withNeighbours 4 (some .int) av_E0 1 0 [(0, .ref 0), (1, .int S)] [] σ Q
  refine ev_iload_n dX4_withNeighbours_0 rfl 1 rfl ?_
  refine ev_istore_n (lv' := [(2, .int S), (0, .ref 0), (1, .int S)]) dX4_withNeighbours_1 rfl (by decide) rfl ?_
  refine ev_iconst dX4_withNeighbours_2 (v := nI 0) (by decide) ?_
  refine ev_istore_n (lv' := [(3, .int (nI 0)), (2, .int S), (0, .ref 0), (1, .int S)]) dX4_withNeighbours_3 rfl (by decide) rfl ?_
  refine ev_lv (lv' := [(0, .ref 0), (1, .int S), (2, .int S), (3, .int (nI 0))]) [2, 3, 1, 0] rfl ?_
  refine loop_up (fun k => av_Ev l RX4 cX4_withNeighbours 4 (some .int) av_E0 1 4 [(0, .ref 0), (1, .int S), (2, .int (fo k (fun k a => bif tb S k then a ||| σ 1 k else a) S)), (3, .int (nI k))] [] σ Q) 6 ?_ ?_
  · show av_Ev l RX4 cX4_withNeighbours 4 (some .int) av_E0 1 4 [(0, .ref 0), (1, .int S), (2, .int (fo 6 (fun k a => bif tb S k then a ||| σ 1 k else a) S)), (3, .int (nI 6))] [] σ Q
    refine ev_iload_n dX4_withNeighbours_4 rfl 3 rfl ?_
    refine ev_bipush dX4_withNeighbours_5 (v := nI 6) (by decide) ?_
    refine ev_ncmp_ge (tgt := 33) dX4_withNeighbours_7 (by decide) (by omega) (by omega) (fun h7 => ?_) (fun h7 => ?_)
    · refine ev_iload_n dX4_withNeighbours_33 rfl 2 rfl ?_
      exact ev_ireturn dX4_withNeighbours_34 rfl rfl (leafI hQ (by first | rfl | (simp [h7]; done)) rfl)
    · exact absurd h7 (by omega)
  · intro k hk ihk
    show av_Ev l RX4 cX4_withNeighbours 4 (some .int) av_E0 1 4 [(0, .ref 0), (1, .int S), (2, .int (fo k (fun k a => bif tb S k then a ||| σ 1 k else a) S)), (3, .int (nI k))] [] σ Q
    refine ev_iload_n dX4_withNeighbours_4 rfl 3 rfl ?_
    refine ev_bipush dX4_withNeighbours_5 (v := nI 6) (by decide) ?_
    refine ev_ncmp_ge (tgt := 33) dX4_withNeighbours_7 (by decide) (by omega) (by omega) (fun h7 => ?_) (fun h7 => ?_)
    · exact absurd h7 (by omega)
    · refine ev_iload_n dX4_withNeighbours_10 rfl 1 rfl ?_
      refine ev_iload_n dX4_withNeighbours_11 rfl 3 rfl ?_
      refine ev_callSi (x := b2i (tb S k)) dX4_withNeighbours_12 (Or.inr M_X4_59) Y_X5_hasBit [.int S, .int (nI k)] (c_X5_hasBit S k (by omega)) (by decide) (Nat.le_of_ble_eq_true rfl) rfl rfl (Nat.le_of_ble_eq_true rfl) ?_
      refine ev_ifb_eq (tgt := 27) dX4_withNeighbours_15 (by decide) (fun h15 => ?_) (fun h15 => ?_)
      · refine ev_iinc (lv' := [(3, .int (nI (k + 1))), (0, .ref 0), (1, .int S), (2, .int (fo k (fun k a => bif tb S k then a ||| σ 1 k else a) S))]) dX4_withNeighbours_27 3 rfl (nI_inc k) (by decide) rfl ?_
        refine ev_goto (tgt := 4) dX4_withNeighbours_30 (by decide) ?_
        refine ev_lv (lv' := [(0, .ref 0), (1, .int S), (2, .int (fo k (fun k a => bif tb S k then a ||| σ 1 k else a) S)), (3, .int (nI (k + 1)))]) [1, 2, 3, 0] rfl ?_
        have ih9 : av_Ev l RX4 cX4_withNeighbours 4 (some .int) av_E0 1 4 [(0, .ref 0), (1, .int S), (2, .int (fo (k + 1) (fun k a => bif tb S k then a ||| σ 1 k else a) S)), (3, .int (nI (k + 1)))] [] σ Q := ihk
        rw [show fo (k + 1) (fun k a => bif tb S k then a ||| σ 1 k else a) S = fo k (fun k a => bif tb S k then a ||| σ 1 k else a) S from (by simp [fo_s, h7, h15])] at ih9
        exact ih9
      · refine ev_iload_n dX4_withNeighbours_18 rfl 2 rfl ?_
        refine ev_aload_n dX4_withNeighbours_19 rfl 0 rfl ?_
        refine ev_getR dX4_withNeighbours_20 C_X4 L_X4_24 (by decide) (by decide) sh_0 rfl ?_
        refine ev_iload_n dX4_withNeighbours_23 rfl 3 rfl ?_
        refine ev_iald (e := k) (v := σ 1 k) dX4_withNeighbours_24 (by decide) sh_1 (by omega) (by decide) rfl ?_
        refine ev_ior dX4_withNeighbours_25 ?_
        refine ev_istore_n (lv' := [(2, .int ((fo k (fun k a => bif tb S k then a ||| σ 1 k else a) S) ||| (σ 1 k))), (0, .ref 0), (1, .int S), (3, .int (nI k))]) dX4_withNeighbours_26 rfl (by decide) rfl ?_
        refine ev_iinc (lv' := [(3, .int (nI (k + 1))), (2, .int ((fo k (fun k a => bif tb S k then a ||| σ 1 k else a) S) ||| (σ 1 k))), (0, .ref 0), (1, .int S)]) dX4_withNeighbours_27 3 rfl (nI_inc k) (by decide) rfl ?_
        refine ev_goto (tgt := 4) dX4_withNeighbours_30 (by decide) ?_
        refine ev_lv (lv' := [(0, .ref 0), (1, .int S), (2, .int ((fo k (fun k a => bif tb S k then a ||| σ 1 k else a) S) ||| (σ 1 k))), (3, .int (nI (k + 1)))]) [2, 3, 1, 0] rfl ?_
        have ih9 : av_Ev l RX4 cX4_withNeighbours 4 (some .int) av_E0 1 4 [(0, .ref 0), (1, .int S), (2, .int (fo (k + 1) (fun k a => bif tb S k then a ||| σ 1 k else a) S)), (3, .int (nI (k + 1)))] [] σ Q := ihk
        rw [show fo (k + 1) (fun k a => bif tb S k then a ||| σ 1 k else a) S = (fo k (fun k a => bif tb S k then a ||| σ 1 k else a) S) ||| (σ 1 k) from (by simp [fo_s, h7, h15])] at ih9
        exact ih9

set_option maxRecDepth 100000 in
set_option maxHeartbeats 1000000 in
theorem c_X4_networkOf {l : Launch} {σ : av_S} (s : Nat) (hs : s < 6) : av_M l RX4 cX4_networkOf 4 (some .int) 2 [.ref 0, .int (nI s)] σ (some (.int (net (σ 1) s))) σ := by
  intro Q hQ
  show av_Ev l RX4 cX4_networkOf 4 (some .int) av_E0 2 0 [(0, .ref 0), (1, .int (nI s))] [] σ Q
  refine ev_iconst dX4_networkOf_0 (v := nI 1) (by decide) ?_
  refine ev_iload_n dX4_networkOf_1 rfl 1 rfl ?_
  refine ev_ishl dX4_networkOf_2 ?_
  refine ev_top (v := bt s) rfl ?_
  refine ev_istore_n (lv' := [(2, .int (bt s)), (0, .ref 0), (1, .int (nI s))]) dX4_networkOf_3 rfl (by decide) rfl ?_
  refine ev_iconst dX4_networkOf_4 (v := nI 1) (by decide) ?_
  refine ev_istore_n (lv' := [(3, .int (nI 1)), (2, .int (bt s)), (0, .ref 0), (1, .int (nI s))]) dX4_networkOf_5 rfl (by decide) rfl ?_
  refine ev_lv (lv' := [(0, .ref 0), (1, .int (nI s)), (2, .int (bt s)), (3, .int (nI 1))]) [2, 3, 1, 0] rfl ?_
  refine loop_up (fun k => av_Ev l RX4 cX4_networkOf 4 (some .int) av_E0 2 6 [(0, .ref 0), (1, .int (nI s)), (2, .int (fo k (fun _ r => wn (σ 1) r) (bt s))), (3, .int (nI (k + 1)))] [] σ Q) 5 ?_ ?_
  · show av_Ev l RX4 cX4_networkOf 4 (some .int) av_E0 2 6 [(0, .ref 0), (1, .int (nI s)), (2, .int (fo 5 (fun _ r => wn (σ 1) r) (bt s))), (3, .int (nI (5 + 1)))] [] σ Q
    refine ev_iload_n dX4_networkOf_6 rfl 3 rfl ?_
    refine ev_bipush dX4_networkOf_7 (v := nI 6) (by decide) ?_
    refine ev_ncmp_ge (tgt := 24) dX4_networkOf_9 (by decide) (by omega) (by omega) (fun h9 => ?_) (fun h9 => ?_)
    · refine ev_iload_n dX4_networkOf_24 rfl 2 rfl ?_
      exact ev_ireturn dX4_networkOf_25 rfl rfl (leafI hQ (by first | rfl | (simp [h9]; done)) rfl)
    · exact absurd h9 (by omega)
  · intro k hk ihk
    show av_Ev l RX4 cX4_networkOf 4 (some .int) av_E0 2 6 [(0, .ref 0), (1, .int (nI s)), (2, .int (fo k (fun _ r => wn (σ 1) r) (bt s))), (3, .int (nI (k + 1)))] [] σ Q
    refine ev_iload_n dX4_networkOf_6 rfl 3 rfl ?_
    refine ev_bipush dX4_networkOf_7 (v := nI 6) (by decide) ?_
    refine ev_ncmp_ge (tgt := 24) dX4_networkOf_9 (by decide) (by omega) (by omega) (fun h9 => ?_) (fun h9 => ?_)
    · exact absurd h9 (by omega)
    · refine ev_aload_n dX4_networkOf_12 rfl 0 rfl ?_
      refine ev_iload_n dX4_networkOf_13 rfl 2 rfl ?_
      refine ev_callVi (x := wn (σ 1) (fo k (fun _ r => wn (σ 1) r) (bt s))) dX4_networkOf_14 M_X4_67 Y_X4_withNeighbours [.int (fo k (fun _ r => wn (σ 1) r) (bt s))] (c_X4_withNeighbours (fo k (fun _ r => wn (σ 1) r) (bt s)) ) (by decide) (Nat.le_of_ble_eq_true rfl) (by decide) sh_0 rfl rfl rfl (Nat.le_of_ble_eq_true rfl) ?_
      refine ev_istore_n (lv' := [(2, .int (wn (σ 1) (fo k (fun _ r => wn (σ 1) r) (bt s)))), (0, .ref 0), (1, .int (nI s)), (3, .int (nI (k + 1)))]) dX4_networkOf_17 rfl (by decide) rfl ?_
      refine ev_iinc (lv' := [(3, .int (nI (k + 1 + 1))), (2, .int (wn (σ 1) (fo k (fun _ r => wn (σ 1) r) (bt s)))), (0, .ref 0), (1, .int (nI s))]) dX4_networkOf_18 3 rfl (nI_inc (k + 1)) (by decide) rfl ?_
      refine ev_goto (tgt := 6) dX4_networkOf_21 (by decide) ?_
      refine ev_lv (lv' := [(0, .ref 0), (1, .int (nI s)), (2, .int (wn (σ 1) (fo k (fun _ r => wn (σ 1) r) (bt s)))), (3, .int (nI (k + 1 + 1)))]) [2, 3, 1, 0] rfl ?_
      have ih9 : av_Ev l RX4 cX4_networkOf 4 (some .int) av_E0 2 6 [(0, .ref 0), (1, .int (nI s)), (2, .int (fo (k + 1) (fun _ r => wn (σ 1) r) (bt s))), (3, .int (nI ((k + 1) + 1)))] [] σ Q := ihk
      rw [show fo (k + 1) (fun _ r => wn (σ 1) r) (bt s) = wn (σ 1) (fo k (fun _ r => wn (σ 1) r) (bt s)) from (by simp [fo_s, h9])] at ih9
      rw [show nI ((k + 1) + 1) = nI (k + 1 + 1) from (by simp [fo_s, h9])] at ih9
      exact ih9

set_option maxRecDepth 100000 in
set_option maxHeartbeats 1000000 in
theorem c_X4_hasUser {l : Launch} {σ : av_S} (s : Nat) (n : Nat) (hs : s < 6) (hn : n < 10) : av_M l RX4 cX4_hasUser 3 (some .boolean) 1 [.ref 0, .int (nI s), .int (nI n)] σ (some (.int (b2i (us (σ 2) s n)))) σ := by
  intro Q hQ
  show av_Ev l RX4 cX4_hasUser 3 (some .boolean) av_E0 1 0 [(0, .ref 0), (1, .int (nI s)), (2, .int (nI n))] [] σ Q
  refine ev_aload_n dX4_hasUser_0 rfl 0 rfl ?_
  refine ev_getR dX4_hasUser_1 C_X4 L_X4_28 (by decide) (by decide) sh_0 rfl ?_
  refine ev_iload_n dX4_hasUser_4 rfl 1 rfl ?_
  refine ev_iload_n dX4_hasUser_5 rfl 2 rfl ?_
  refine ev_callSi (x := nI (s * 10 + n)) dX4_hasUser_6 (Or.inl M_X4_74) Y_X4_userCell [.int (nI s), .int (nI n)] (c_X4_userCell s n ) (by decide) (Nat.le_of_ble_eq_true rfl) rfl rfl (Nat.le_of_ble_eq_true rfl) ?_
  refine ev_iald (e := s * 10 + n) (v := σ 2 (s * 10 + n)) dX4_hasUser_9 (by decide) sh_2 (by omega) (by decide) rfl ?_
  refine ev_iconst dX4_hasUser_10 (v := (-1)) (by decide) ?_
  refine ev_icmp_eq (tgt := 18) dX4_hasUser_11 (by decide) (fun h11 => ?_) (fun h11 => ?_)
  · refine ev_iconst dX4_hasUser_18 (v := nI 0) (by decide) ?_
    exact ev_ireturn dX4_hasUser_19 rfl (by decide) (leafI hQ (by simp [b2i, us, h11]) rfl)
  · refine ev_iconst dX4_hasUser_14 (v := nI 1) (by decide) ?_
    refine ev_goto (tgt := 19) dX4_hasUser_15 (by decide) ?_
    exact ev_ireturn dX4_hasUser_19 rfl (by decide) (leafI hQ (by simp [b2i, us, h11]) rfl)

set_option maxRecDepth 100000 in
set_option maxHeartbeats 1000000 in
theorem c_X4_timeOfUser {l : Launch} {σ : av_S} (s : Nat) (n : Nat) (hs : s < 6) (hn : n < 10) : av_M l RX4 cX4_timeOfUser 3 (some .int) 1 [.ref 0, .int (nI s), .int (nI n)] σ (some (.int (σ 2 (s * 10 + n)))) σ := by
  intro Q hQ
  show av_Ev l RX4 cX4_timeOfUser 3 (some .int) av_E0 1 0 [(0, .ref 0), (1, .int (nI s)), (2, .int (nI n))] [] σ Q
  refine ev_aload_n dX4_timeOfUser_0 rfl 0 rfl ?_
  refine ev_getR dX4_timeOfUser_1 C_X4 L_X4_28 (by decide) (by decide) sh_0 rfl ?_
  refine ev_iload_n dX4_timeOfUser_4 rfl 1 rfl ?_
  refine ev_iload_n dX4_timeOfUser_5 rfl 2 rfl ?_
  refine ev_callSi (x := nI (s * 10 + n)) dX4_timeOfUser_6 (Or.inl M_X4_74) Y_X4_userCell [.int (nI s), .int (nI n)] (c_X4_userCell s n ) (by decide) (Nat.le_of_ble_eq_true rfl) rfl rfl (Nat.le_of_ble_eq_true rfl) ?_
  refine ev_iald (e := s * 10 + n) (v := σ 2 (s * 10 + n)) dX4_timeOfUser_9 (by decide) sh_2 (by omega) (by decide) rfl ?_
  exact ev_ireturn dX4_timeOfUser_10 rfl rfl (leafI hQ rfl rfl)

set_option maxRecDepth 100000 in
set_option maxHeartbeats 1000000 in
theorem c_X4_homeIn {l : Launch} {σ : av_S} (S : Int32) (n : Nat) (hn : n < 10) : av_M l RX4 cX4_homeIn 4 (some .int) 2 [.ref 0, .int S, .int (nI n)] σ (some (.int (oI (hm (σ 2) S n)))) σ := by
  intro Q hQ
  show av_Ev l RX4 cX4_homeIn 4 (some .int) av_E0 2 0 [(0, .ref 0), (1, .int S), (2, .int (nI n))] [] σ Q
  refine ev_iconst dX4_homeIn_0 (v := nI 0) (by decide) ?_
  refine ev_istore_n (lv' := [(3, .int (nI 0)), (0, .ref 0), (1, .int S), (2, .int (nI n))]) dX4_homeIn_1 rfl (by decide) rfl ?_
  refine ev_lv (lv' := [(0, .ref 0), (1, .int S), (2, .int (nI n)), (3, .int (nI 0))]) [1, 2, 3, 0] rfl ?_
  refine loop_up (fun k => fnd (6 - k) k (fun s => tb S s && us (σ 2) s n) = hm (σ 2) S n → av_Ev l RX4 cX4_homeIn 4 (some .int) av_E0 2 2 [(0, .ref 0), (1, .int S), (2, .int (nI n)), (3, .int (nI k))] [] σ Q) 6 ?_ ?_ (rfl)
  · intro hR
    refine ev_iload_n dX4_homeIn_2 rfl 3 rfl ?_
    refine ev_bipush dX4_homeIn_3 (v := nI 6) (by decide) ?_
    refine ev_ncmp_ge (tgt := 33) dX4_homeIn_5 (by decide) (by omega) (by omega) (fun h5 => ?_) (fun h5 => ?_)
    · refine ev_iconst dX4_homeIn_33 (v := (-1)) (by decide) ?_
      exact ev_ireturn dX4_homeIn_34 rfl rfl (leafI hQ (by first | (rw [← hR, fnd_go hk]; simp [h5]; rfl) | (rw [← hR]; rfl)) rfl)
    · exact absurd h5 (by omega)
  · intro k hk ihk hR
    refine ev_iload_n dX4_homeIn_2 rfl 3 rfl ?_
    refine ev_bipush dX4_homeIn_3 (v := nI 6) (by decide) ?_
    refine ev_ncmp_ge (tgt := 33) dX4_homeIn_5 (by decide) (by omega) (by omega) (fun h5 => ?_) (fun h5 => ?_)
    · exact absurd h5 (by omega)
    · refine ev_iload_n dX4_homeIn_8 rfl 1 rfl ?_
      refine ev_iload_n dX4_homeIn_9 rfl 3 rfl ?_
      refine ev_callSi (x := b2i (tb S k)) dX4_homeIn_10 (Or.inr M_X4_59) Y_X5_hasBit [.int S, .int (nI k)] (c_X5_hasBit S k (by omega)) (by decide) (Nat.le_of_ble_eq_true rfl) rfl rfl (Nat.le_of_ble_eq_true rfl) ?_
      refine ev_ifb_eq (tgt := 27) dX4_homeIn_13 (by decide) (fun h13 => ?_) (fun h13 => ?_)
      · refine ev_iinc (lv' := [(3, .int (nI (k + 1))), (0, .ref 0), (1, .int S), (2, .int (nI n))]) dX4_homeIn_27 3 rfl (nI_inc k) (by decide) rfl ?_
        refine ev_goto (tgt := 2) dX4_homeIn_30 (by decide) ?_
        refine ev_lv (lv' := [(0, .ref 0), (1, .int S), (2, .int (nI n)), (3, .int (nI (k + 1)))]) [1, 2, 3, 0] rfl ?_
        have ih9 := ihk (by rw [← hR, fnd_go hk]; simp [h5, h13])
        exact ih9
      · refine ev_aload_n dX4_homeIn_16 rfl 0 rfl ?_
        refine ev_iload_n dX4_homeIn_17 rfl 3 rfl ?_
        refine ev_iload_n dX4_homeIn_18 rfl 2 rfl ?_
        refine ev_callVi (x := b2i (us (σ 2) k n)) dX4_homeIn_19 M_X4_78 Y_X4_hasUser [.int (nI k), .int (nI n)] (c_X4_hasUser k n (by omega) (by omega)) (by decide) (Nat.le_of_ble_eq_true rfl) (by decide) sh_0 rfl rfl rfl (Nat.le_of_ble_eq_true rfl) ?_
        refine ev_ifb_eq (tgt := 27) dX4_homeIn_22 (by decide) (fun h22 => ?_) (fun h22 => ?_)
        · refine ev_iinc (lv' := [(3, .int (nI (k + 1))), (0, .ref 0), (1, .int S), (2, .int (nI n))]) dX4_homeIn_27 3 rfl (nI_inc k) (by decide) rfl ?_
          refine ev_goto (tgt := 2) dX4_homeIn_30 (by decide) ?_
          refine ev_lv (lv' := [(0, .ref 0), (1, .int S), (2, .int (nI n)), (3, .int (nI (k + 1)))]) [1, 2, 3, 0] rfl ?_
          have ih9 := ihk (by rw [← hR, fnd_go hk]; simp [h5, h13, h22])
          exact ih9
        · refine ev_iload_n dX4_homeIn_25 rfl 3 rfl ?_
          exact ev_ireturn dX4_homeIn_26 rfl rfl (leafI hQ (by first | (rw [← hR, fnd_go hk]; simp [h5, h13, h22]; rfl) | (rw [← hR]; rfl)) rfl)

set_option maxRecDepth 100000 in
set_option maxHeartbeats 1000000 in
theorem c_X4_timeOfNick {l : Launch} {σ : av_S} (S : Int32) (n : Nat) (hn : n < 10) : av_M l RX4 cX4_timeOfNick 4 (some .int) 3 [.ref 0, .int S, .int (nI n)] σ (some (.int (tn (σ 2) S n))) σ := by
  intro Q hQ
  show av_Ev l RX4 cX4_timeOfNick 4 (some .int) av_E0 3 0 [(0, .ref 0), (1, .int S), (2, .int (nI n))] [] σ Q
  refine ev_aload_n dX4_timeOfNick_0 rfl 0 rfl ?_
  refine ev_iload_n dX4_timeOfNick_1 rfl 1 rfl ?_
  refine ev_iload_n dX4_timeOfNick_2 rfl 2 rfl ?_
  refine ev_callVi (x := oI (hm (σ 2) S n)) dX4_timeOfNick_3 M_X4_81 Y_X4_homeIn [.int S, .int (nI n)] (c_X4_homeIn S n (by omega)) (by decide) (Nat.le_of_ble_eq_true rfl) (by decide) sh_0 rfl rfl rfl (Nat.le_of_ble_eq_true rfl) ?_
  rcases ho3 : hm (σ 2) S n with _ | u3
  · refine ev_top (v := (-1)) rfl ?_
    refine ev_istore_n (lv' := [(3, .int (-1)), (0, .ref 0), (1, .int S), (2, .int (nI n))]) dX4_timeOfNick_6 rfl (by decide) rfl ?_
    refine ev_iload_n dX4_timeOfNick_7 rfl 0 rfl ?_
    refine ev_iconst dX4_timeOfNick_8 (v := (-1)) (by decide) ?_
    refine ev_icmp_ne (tgt := 16) dX4_timeOfNick_9 (by decide) (fun h9 => ?_) (fun h9 => ?_)
    · exact absurd rfl h9
    · refine ev_iconst dX4_timeOfNick_12 (v := (-1)) (by decide) ?_
      refine ev_goto (tgt := 22) dX4_timeOfNick_13 (by decide) ?_
      exact ev_ireturn dX4_timeOfNick_22 rfl rfl (leafI hQ (by simp [tn, ho3, h9]) rfl)
  · have hu3 : u3 < 6 := hm_lt ho3
    refine ev_top (v := nI u3) rfl ?_
    refine ev_istore_n (lv' := [(3, .int (nI u3)), (0, .ref 0), (1, .int S), (2, .int (nI n))]) dX4_timeOfNick_6 rfl (by decide) rfl ?_
    refine ev_iload_n dX4_timeOfNick_7 rfl 0 rfl ?_
    refine ev_iconst dX4_timeOfNick_8 (v := (-1)) (by decide) ?_
    refine ev_icmp_ne (tgt := 16) dX4_timeOfNick_9 (by decide) (fun h9 => ?_) (fun h9 => ?_)
    · refine ev_aload_n dX4_timeOfNick_16 rfl 1 rfl ?_
      refine ev_iload_n dX4_timeOfNick_17 rfl 0 rfl ?_
      refine ev_iload_n dX4_timeOfNick_18 rfl 3 rfl ?_
      refine ev_callVi (x := σ 2 (u3 * 10 + n)) dX4_timeOfNick_19 M_X4_84 Y_X4_timeOfUser [.int (nI u3), .int (nI n)] (c_X4_timeOfUser u3 n (by omega) (by omega)) (by decide) (Nat.le_of_ble_eq_true rfl) (by decide) sh_0 rfl rfl rfl (Nat.le_of_ble_eq_true rfl) ?_
      exact ev_ireturn dX4_timeOfNick_22 rfl rfl (leafI hQ (by simp [tn, ho3, h9]) rfl)
    · exact absurd h9 (nI_neg (by omega) (by decide))

set_option maxRecDepth 100000 in
set_option maxHeartbeats 1000000 in
theorem c_X4_nicksIn {l : Launch} {σ : av_S} (S : Int32)  : av_M l RX4 cX4_nicksIn 4 (some .int) 3 [.ref 0, .int S] σ (some (.int (nk (σ 2) S))) σ := by
  intro Q hQ
  show av_Ev l RX4 cX4_nicksIn 4 (some .int) av_E0 3 0 [(0, .ref 0), (1, .int S)] [] σ Q
  refine ev_iconst dX4_nicksIn_0 (v := nI 0) (by decide) ?_
  refine ev_istore_n (lv' := [(2, .int (nI 0)), (0, .ref 0), (1, .int S)]) dX4_nicksIn_1 rfl (by decide) rfl ?_
  refine ev_iconst dX4_nicksIn_2 (v := nI 0) (by decide) ?_
  refine ev_istore_n (lv' := [(3, .int (nI 0)), (2, .int (nI 0)), (0, .ref 0), (1, .int S)]) dX4_nicksIn_3 rfl (by decide) rfl ?_
  refine ev_lv (lv' := [(0, .ref 0), (1, .int S), (2, .int (nI 0)), (3, .int (nI 0))]) [2, 3, 1, 0] rfl ?_
  refine loop_up (fun k => av_Ev l RX4 cX4_nicksIn 4 (some .int) av_E0 3 4 [(0, .ref 0), (1, .int S), (2, .int (fo k (fun n a => wb a n (hm (σ 2) S n).isSome) (nI 0))), (3, .int (nI k))] [] σ Q) 10 ?_ ?_
  · show av_Ev l RX4 cX4_nicksIn 4 (some .int) av_E0 3 4 [(0, .ref 0), (1, .int S), (2, .int (fo 10 (fun n a => wb a n (hm (σ 2) S n).isSome) (nI 0))), (3, .int (nI 10))] [] σ Q
    refine ev_iload_n dX4_nicksIn_4 rfl 3 rfl ?_
    refine ev_bipush dX4_nicksIn_5 (v := nI 10) (by decide) ?_
    refine ev_ncmp_ge (tgt := 37) dX4_nicksIn_7 (by decide) (by omega) (by omega) (fun h7 => ?_) (fun h7 => ?_)
    · refine ev_iload_n dX4_nicksIn_37 rfl 2 rfl ?_
      exact ev_ireturn dX4_nicksIn_38 rfl rfl (leafI hQ (by first | rfl | (simp [h7]; done)) rfl)
    · exact absurd h7 (by omega)
  · intro k hk ihk
    show av_Ev l RX4 cX4_nicksIn 4 (some .int) av_E0 3 4 [(0, .ref 0), (1, .int S), (2, .int (fo k (fun n a => wb a n (hm (σ 2) S n).isSome) (nI 0))), (3, .int (nI k))] [] σ Q
    refine ev_iload_n dX4_nicksIn_4 rfl 3 rfl ?_
    refine ev_bipush dX4_nicksIn_5 (v := nI 10) (by decide) ?_
    refine ev_ncmp_ge (tgt := 37) dX4_nicksIn_7 (by decide) (by omega) (by omega) (fun h7 => ?_) (fun h7 => ?_)
    · exact absurd h7 (by omega)
    · refine ev_iload_n dX4_nicksIn_10 rfl 2 rfl ?_
      refine ev_iload_n dX4_nicksIn_11 rfl 3 rfl ?_
      refine ev_aload_n dX4_nicksIn_12 rfl 0 rfl ?_
      refine ev_iload_n dX4_nicksIn_13 rfl 1 rfl ?_
      refine ev_iload_n dX4_nicksIn_14 rfl 3 rfl ?_
      refine ev_callVi (x := oI (hm (σ 2) S k)) dX4_nicksIn_15 M_X4_81 Y_X4_homeIn [.int S, .int (nI k)] (c_X4_homeIn S k (by omega)) (by decide) (Nat.le_of_ble_eq_true rfl) (by decide) sh_0 rfl rfl rfl (Nat.le_of_ble_eq_true rfl) ?_
      rcases ho15 : hm (σ 2) S k with _ | u15
      · refine ev_top (v := (-1)) rfl ?_
        refine ev_iconst dX4_nicksIn_18 (v := (-1)) (by decide) ?_
        refine ev_icmp_eq (tgt := 26) dX4_nicksIn_19 (by decide) (fun h19 => ?_) (fun h19 => ?_)
        · refine ev_iconst dX4_nicksIn_26 (v := nI 0) (by decide) ?_
          refine ev_callSi (x := wb (fo k (fun n a => wb a n (hm (σ 2) S n).isSome) (nI 0)) k false) dX4_nicksIn_27 (Or.inr M_X4_63) Y_X5_withBit [.int (fo k (fun n a => wb a n (hm (σ 2) S n).isSome) (nI 0)), .int (nI k), .int (b2i false)] (c_X5_withBit (fo k (fun n a => wb a n (hm (σ 2) S n).isSome) (nI 0)) k false (by omega)) (by decide) (Nat.le_of_ble_eq_true rfl) rfl rfl (Nat.le_of_ble_eq_true rfl) ?_
          refine ev_istore_n (lv' := [(2, .int (wb (fo k (fun n a => wb a n (hm (σ 2) S n).isSome) (nI 0)) k false)), (0, .ref 0), (1, .int S), (3, .int (nI k))]) dX4_nicksIn_30 rfl (by decide) rfl ?_
          refine ev_iinc (lv' := [(3, .int (nI (k + 1))), (2, .int (wb (fo k (fun n a => wb a n (hm (σ 2) S n).isSome) (nI 0)) k false)), (0, .ref 0), (1, .int S)]) dX4_nicksIn_31 3 rfl (nI_inc k) (by decide) rfl ?_
          refine ev_goto (tgt := 4) dX4_nicksIn_34 (by decide) ?_
          refine ev_lv (lv' := [(0, .ref 0), (1, .int S), (2, .int (wb (fo k (fun n a => wb a n (hm (σ 2) S n).isSome) (nI 0)) k false)), (3, .int (nI (k + 1)))]) [2, 3, 1, 0] rfl ?_
          have ih9 : av_Ev l RX4 cX4_nicksIn 4 (some .int) av_E0 3 4 [(0, .ref 0), (1, .int S), (2, .int (fo (k + 1) (fun n a => wb a n (hm (σ 2) S n).isSome) (nI 0))), (3, .int (nI (k + 1)))] [] σ Q := ihk
          rw [show fo (k + 1) (fun n a => wb a n (hm (σ 2) S n).isSome) (nI 0) = wb (fo k (fun n a => wb a n (hm (σ 2) S n).isSome) (nI 0)) k false from (by simp [fo_s, h7, ho15, h19])] at ih9
          exact ih9
        · exact absurd rfl h19
      · have hu15 : u15 < 6 := hm_lt ho15
        refine ev_top (v := nI u15) rfl ?_
        refine ev_iconst dX4_nicksIn_18 (v := (-1)) (by decide) ?_
        refine ev_icmp_eq (tgt := 26) dX4_nicksIn_19 (by decide) (fun h19 => ?_) (fun h19 => ?_)
        · exact absurd h19 (nI_neg (by omega) (by decide))
        · refine ev_iconst dX4_nicksIn_22 (v := nI 1) (by decide) ?_
          refine ev_goto (tgt := 27) dX4_nicksIn_23 (by decide) ?_
          refine ev_callSi (x := wb (fo k (fun n a => wb a n (hm (σ 2) S n).isSome) (nI 0)) k true) dX4_nicksIn_27 (Or.inr M_X4_63) Y_X5_withBit [.int (fo k (fun n a => wb a n (hm (σ 2) S n).isSome) (nI 0)), .int (nI k), .int (b2i true)] (c_X5_withBit (fo k (fun n a => wb a n (hm (σ 2) S n).isSome) (nI 0)) k true (by omega)) (by decide) (Nat.le_of_ble_eq_true rfl) rfl rfl (Nat.le_of_ble_eq_true rfl) ?_
          refine ev_istore_n (lv' := [(2, .int (wb (fo k (fun n a => wb a n (hm (σ 2) S n).isSome) (nI 0)) k true)), (0, .ref 0), (1, .int S), (3, .int (nI k))]) dX4_nicksIn_30 rfl (by decide) rfl ?_
          refine ev_iinc (lv' := [(3, .int (nI (k + 1))), (2, .int (wb (fo k (fun n a => wb a n (hm (σ 2) S n).isSome) (nI 0)) k true)), (0, .ref 0), (1, .int S)]) dX4_nicksIn_31 3 rfl (nI_inc k) (by decide) rfl ?_
          refine ev_goto (tgt := 4) dX4_nicksIn_34 (by decide) ?_
          refine ev_lv (lv' := [(0, .ref 0), (1, .int S), (2, .int (wb (fo k (fun n a => wb a n (hm (σ 2) S n).isSome) (nI 0)) k true)), (3, .int (nI (k + 1)))]) [2, 3, 1, 0] rfl ?_
          have ih9 : av_Ev l RX4 cX4_nicksIn 4 (some .int) av_E0 3 4 [(0, .ref 0), (1, .int S), (2, .int (fo (k + 1) (fun n a => wb a n (hm (σ 2) S n).isSome) (nI 0))), (3, .int (nI (k + 1)))] [] σ Q := ihk
          rw [show fo (k + 1) (fun n a => wb a n (hm (σ 2) S n).isSome) (nI 0) = wb (fo k (fun n a => wb a n (hm (σ 2) S n).isSome) (nI 0)) k true from (by simp [fo_s, h7, ho15, h19])] at ih9
          exact ih9

set_option maxRecDepth 100000 in
set_option maxHeartbeats 1000000 in
theorem c_X4_countUsers {l : Launch} {σ : av_S} (S : Int32)  : av_M l RX4 cX4_countUsers 5 (some .int) 2 [.ref 0, .int S] σ (some (.int (nI (cu (σ 2) S)))) σ := by
  intro Q hQ
  show av_Ev l RX4 cX4_countUsers 5 (some .int) av_E0 2 0 [(0, .ref 0), (1, .int S)] [] σ Q
  refine ev_iconst dX4_countUsers_0 (v := nI 0) (by decide) ?_
  refine ev_istore_n (lv' := [(2, .int (nI 0)), (0, .ref 0), (1, .int S)]) dX4_countUsers_1 rfl (by decide) rfl ?_
  refine ev_iconst dX4_countUsers_2 (v := nI 0) (by decide) ?_
  refine ev_istore_n (lv' := [(3, .int (nI 0)), (2, .int (nI 0)), (0, .ref 0), (1, .int S)]) dX4_countUsers_3 rfl (by decide) rfl ?_
  refine ev_lv (lv' := [(0, .ref 0), (1, .int S), (2, .int (nI 0)), (3, .int (nI 0))]) [2, 3, 1, 0] rfl ?_
  refine loop_up (fun s9 => av_Ev l RX4 cX4_countUsers 5 (some .int) av_E0 2 4 [(0, .ref 0), (1, .int S), (2, .int (nI (fo s9 (fun s c => fo 10 (fun n c => cuN (σ 2) S s n c) c) 0))), (3, .int (nI s9))] [] σ Q) 6 ?_ ?_
  · show av_Ev l RX4 cX4_countUsers 5 (some .int) av_E0 2 4 [(0, .ref 0), (1, .int S), (2, .int (nI (fo 6 (fun s c => fo 10 (fun n c => cuN (σ 2) S s n c) c) 0))), (3, .int (nI 6))] [] σ Q
    refine ev_iload_n dX4_countUsers_4 rfl 3 rfl ?_
    refine ev_bipush dX4_countUsers_5 (v := nI 6) (by decide) ?_
    refine ev_ncmp_ge (tgt := 53) dX4_countUsers_7 (by decide) (by omega) (by omega) (fun h7 => ?_) (fun h7 => ?_)
    · refine ev_iload_n dX4_countUsers_53 rfl 2 rfl ?_
      exact ev_ireturn dX4_countUsers_54 rfl rfl (leafI hQ (by first | rfl | (simp [h7]; done)) rfl)
    · exact absurd h7 (by omega)
  · intro s9 hs9 ihs9
    show av_Ev l RX4 cX4_countUsers 5 (some .int) av_E0 2 4 [(0, .ref 0), (1, .int S), (2, .int (nI (fo s9 (fun s c => fo 10 (fun n c => cuN (σ 2) S s n c) c) 0))), (3, .int (nI s9))] [] σ Q
    refine ev_iload_n dX4_countUsers_4 rfl 3 rfl ?_
    refine ev_bipush dX4_countUsers_5 (v := nI 6) (by decide) ?_
    refine ev_ncmp_ge (tgt := 53) dX4_countUsers_7 (by decide) (by omega) (by omega) (fun h7 => ?_) (fun h7 => ?_)
    · exact absurd h7 (by omega)
    · refine ev_iconst dX4_countUsers_10 (v := nI 0) (by decide) ?_
      refine ev_istore (lv' := [(4, .int (nI 0)), (0, .ref 0), (1, .int S), (2, .int (nI (fo s9 (fun s c => fo 10 (fun n c => cuN (σ 2) S s n c) c) 0))), (3, .int (nI s9))]) dX4_countUsers_11 (by decide) rfl ?_
      refine ev_lv (lv' := [(0, .ref 0), (1, .int S), (2, .int (nI (fo s9 (fun s c => fo 10 (fun n c => cuN (σ 2) S s n c) c) 0))), (3, .int (nI s9)), (4, .int (nI 0))]) [1, 2, 3, 4, 0] rfl ?_
      refine loop_up (fun n9 => av_Ev l RX4 cX4_countUsers 5 (some .int) av_E0 2 13 [(0, .ref 0), (1, .int S), (2, .int (nI (fo n9 (fun n c => cuN (σ 2) S s9 n c) (fo s9 (fun s c => fo 10 (fun n c => cuN (σ 2) S s n c) c) 0)))), (3, .int (nI s9)), (4, .int (nI n9))] [] σ Q) 10 ?_ ?_
      · show av_Ev l RX4 cX4_countUsers 5 (some .int) av_E0 2 13 [(0, .ref 0), (1, .int S), (2, .int (nI (fo 10 (fun n c => cuN (σ 2) S s9 n c) (fo s9 (fun s c => fo 10 (fun n c => cuN (σ 2) S s n c) c) 0)))), (3, .int (nI s9)), (4, .int (nI 10))] [] σ Q
        refine ev_iload dX4_countUsers_13 4 rfl ?_
        refine ev_bipush dX4_countUsers_15 (v := nI 10) (by decide) ?_
        refine ev_ncmp_ge (tgt := 47) dX4_countUsers_17 (by decide) (by omega) (by omega) (fun h17 => ?_) (fun h17 => ?_)
        · refine ev_iinc (lv' := [(3, .int (nI (s9 + 1))), (0, .ref 0), (1, .int S), (2, .int (nI (fo 10 (fun n c => cuN (σ 2) S s9 n c) (fo s9 (fun s c => fo 10 (fun n c => cuN (σ 2) S s n c) c) 0)))), (4, .int (nI 10))]) dX4_countUsers_47 3 rfl (nI_inc s9) (by decide) rfl ?_
          refine ev_goto (tgt := 4) dX4_countUsers_50 (by decide) ?_
          refine ev_lv (lv' := [(0, .ref 0), (1, .int S), (2, .int (nI (fo 10 (fun n c => cuN (σ 2) S s9 n c) (fo s9 (fun s c => fo 10 (fun n c => cuN (σ 2) S s n c) c) 0)))), (3, .int (nI (s9 + 1)))]) [1, 2, 3, 0] rfl ?_
          have ih9 : av_Ev l RX4 cX4_countUsers 5 (some .int) av_E0 2 4 [(0, .ref 0), (1, .int S), (2, .int (nI (fo (s9 + 1) (fun s c => fo 10 (fun n c => cuN (σ 2) S s n c) c) 0))), (3, .int (nI (s9 + 1)))] [] σ Q := ihs9
          rw [show nI (fo (s9 + 1) (fun s c => fo 10 (fun n c => cuN (σ 2) S s n c) c) 0) = nI (fo 10 (fun n c => cuN (σ 2) S s9 n c) (fo s9 (fun s c => fo 10 (fun n c => cuN (σ 2) S s n c) c) 0)) from (by simp [fo_s, h7, h17])] at ih9
          exact ih9
        · exact absurd h17 (by omega)
      · intro n9 hn9 ihn9
        show av_Ev l RX4 cX4_countUsers 5 (some .int) av_E0 2 13 [(0, .ref 0), (1, .int S), (2, .int (nI (fo n9 (fun n c => cuN (σ 2) S s9 n c) (fo s9 (fun s c => fo 10 (fun n c => cuN (σ 2) S s n c) c) 0)))), (3, .int (nI s9)), (4, .int (nI n9))] [] σ Q
        refine ev_iload dX4_countUsers_13 4 rfl ?_
        refine ev_bipush dX4_countUsers_15 (v := nI 10) (by decide) ?_
        refine ev_ncmp_ge (tgt := 47) dX4_countUsers_17 (by decide) (by omega) (by omega) (fun h17 => ?_) (fun h17 => ?_)
        · exact absurd h17 (by omega)
        · refine ev_iload_n dX4_countUsers_20 rfl 1 rfl ?_
          refine ev_iload_n dX4_countUsers_21 rfl 3 rfl ?_
          refine ev_callSi (x := b2i (tb S s9)) dX4_countUsers_22 (Or.inr M_X4_59) Y_X5_hasBit [.int S, .int (nI s9)] (c_X5_hasBit S s9 (by omega)) (by decide) (Nat.le_of_ble_eq_true rfl) rfl rfl (Nat.le_of_ble_eq_true rfl) ?_
          refine ev_ifb_eq (tgt := 41) dX4_countUsers_25 (by decide) (fun h25 => ?_) (fun h25 => ?_)
          · refine ev_iinc (lv' := [(4, .int (nI (n9 + 1))), (0, .ref 0), (1, .int S), (2, .int (nI (fo n9 (fun n c => cuN (σ 2) S s9 n c) (fo s9 (fun s c => fo 10 (fun n c => cuN (σ 2) S s n c) c) 0)))), (3, .int (nI s9))]) dX4_countUsers_41 4 rfl (nI_inc n9) (by decide) rfl ?_
            refine ev_goto (tgt := 13) dX4_countUsers_44 (by decide) ?_
            refine ev_lv (lv' := [(0, .ref 0), (1, .int S), (2, .int (nI (fo n9 (fun n c => cuN (σ 2) S s9 n c) (fo s9 (fun s c => fo 10 (fun n c => cuN (σ 2) S s n c) c) 0)))), (3, .int (nI s9)), (4, .int (nI (n9 + 1)))]) [1, 2, 3, 4, 0] rfl ?_
            have ih9 : av_Ev l RX4 cX4_countUsers 5 (some .int) av_E0 2 13 [(0, .ref 0), (1, .int S), (2, .int (nI (fo (n9 + 1) (fun n c => cuN (σ 2) S s9 n c) (fo s9 (fun s c => fo 10 (fun n c => cuN (σ 2) S s n c) c) 0)))), (3, .int (nI s9)), (4, .int (nI (n9 + 1)))] [] σ Q := ihn9
            rw [show nI (fo (n9 + 1) (fun n c => cuN (σ 2) S s9 n c) (fo s9 (fun s c => fo 10 (fun n c => cuN (σ 2) S s n c) c) 0)) = nI (fo n9 (fun n c => cuN (σ 2) S s9 n c) (fo s9 (fun s c => fo 10 (fun n c => cuN (σ 2) S s n c) c) 0)) from (by rw [fo_s]; simp [cuN, h7, h17, h25])] at ih9
            exact ih9
          · refine ev_aload_n dX4_countUsers_28 rfl 0 rfl ?_
            refine ev_iload_n dX4_countUsers_29 rfl 3 rfl ?_
            refine ev_iload dX4_countUsers_30 4 rfl ?_
            refine ev_callVi (x := b2i (us (σ 2) s9 n9)) dX4_countUsers_32 M_X4_78 Y_X4_hasUser [.int (nI s9), .int (nI n9)] (c_X4_hasUser s9 n9 (by omega) (by omega)) (by decide) (Nat.le_of_ble_eq_true rfl) (by decide) sh_0 rfl rfl rfl (Nat.le_of_ble_eq_true rfl) ?_
            refine ev_ifb_eq (tgt := 41) dX4_countUsers_35 (by decide) (fun h35 => ?_) (fun h35 => ?_)
            · refine ev_iinc (lv' := [(4, .int (nI (n9 + 1))), (0, .ref 0), (1, .int S), (2, .int (nI (fo n9 (fun n c => cuN (σ 2) S s9 n c) (fo s9 (fun s c => fo 10 (fun n c => cuN (σ 2) S s n c) c) 0)))), (3, .int (nI s9))]) dX4_countUsers_41 4 rfl (nI_inc n9) (by decide) rfl ?_
              refine ev_goto (tgt := 13) dX4_countUsers_44 (by decide) ?_
              refine ev_lv (lv' := [(0, .ref 0), (1, .int S), (2, .int (nI (fo n9 (fun n c => cuN (σ 2) S s9 n c) (fo s9 (fun s c => fo 10 (fun n c => cuN (σ 2) S s n c) c) 0)))), (3, .int (nI s9)), (4, .int (nI (n9 + 1)))]) [1, 2, 3, 4, 0] rfl ?_
              have ih9 : av_Ev l RX4 cX4_countUsers 5 (some .int) av_E0 2 13 [(0, .ref 0), (1, .int S), (2, .int (nI (fo (n9 + 1) (fun n c => cuN (σ 2) S s9 n c) (fo s9 (fun s c => fo 10 (fun n c => cuN (σ 2) S s n c) c) 0)))), (3, .int (nI s9)), (4, .int (nI (n9 + 1)))] [] σ Q := ihn9
              rw [show nI (fo (n9 + 1) (fun n c => cuN (σ 2) S s9 n c) (fo s9 (fun s c => fo 10 (fun n c => cuN (σ 2) S s n c) c) 0)) = nI (fo n9 (fun n c => cuN (σ 2) S s9 n c) (fo s9 (fun s c => fo 10 (fun n c => cuN (σ 2) S s n c) c) 0)) from (by rw [fo_s]; simp [cuN, h7, h17, h25, h35])] at ih9
              exact ih9
            · refine ev_iinc (lv' := [(2, .int (nI (fo n9 (fun n c => cuN (σ 2) S s9 n c) (fo s9 (fun s c => fo 10 (fun n c => cuN (σ 2) S s n c) c) 0) + 1))), (0, .ref 0), (1, .int S), (3, .int (nI s9)), (4, .int (nI n9))]) dX4_countUsers_38 2 rfl (nI_inc (fo n9 (fun n c => cuN (σ 2) S s9 n c) (fo s9 (fun s c => fo 10 (fun n c => cuN (σ 2) S s n c) c) 0))) (by decide) rfl ?_
              refine ev_iinc (lv' := [(4, .int (nI (n9 + 1))), (2, .int (nI (fo n9 (fun n c => cuN (σ 2) S s9 n c) (fo s9 (fun s c => fo 10 (fun n c => cuN (σ 2) S s n c) c) 0) + 1))), (0, .ref 0), (1, .int S), (3, .int (nI s9))]) dX4_countUsers_41 4 rfl (nI_inc n9) (by decide) rfl ?_
              refine ev_goto (tgt := 13) dX4_countUsers_44 (by decide) ?_
              refine ev_lv (lv' := [(0, .ref 0), (1, .int S), (2, .int (nI (fo n9 (fun n c => cuN (σ 2) S s9 n c) (fo s9 (fun s c => fo 10 (fun n c => cuN (σ 2) S s n c) c) 0) + 1))), (3, .int (nI s9)), (4, .int (nI (n9 + 1)))]) [2, 3, 1, 4, 0] rfl ?_
              have ih9 : av_Ev l RX4 cX4_countUsers 5 (some .int) av_E0 2 13 [(0, .ref 0), (1, .int S), (2, .int (nI (fo (n9 + 1) (fun n c => cuN (σ 2) S s9 n c) (fo s9 (fun s c => fo 10 (fun n c => cuN (σ 2) S s n c) c) 0)))), (3, .int (nI s9)), (4, .int (nI (n9 + 1)))] [] σ Q := ihn9
              rw [show nI (fo (n9 + 1) (fun n c => cuN (σ 2) S s9 n c) (fo s9 (fun s c => fo 10 (fun n c => cuN (σ 2) S s n c) c) 0)) = nI (fo n9 (fun n c => cuN (σ 2) S s9 n c) (fo s9 (fun s c => fo 10 (fun n c => cuN (σ 2) S s n c) c) 0) + 1) from (by rw [fo_s]; simp [cuN, h7, h17, h25, h35])] at ih9
              exact ih9

set_option maxRecDepth 100000 in
set_option maxHeartbeats 1000000 in
theorem c_X4_isMember {l : Launch} {σ : av_S} (s : Nat) (n : Nat) (ch : Nat) (hs : s < 6) (hn : n < 32) (hc : ch < 4) : av_M l RX4 cX4_isMember 4 (some .boolean) 1 [.ref 0, .int (nI s), .int (nI n), .int (nI ch)] σ (some (.int (b2i (tb (σ 3 (s * 4 + ch)) n)))) σ := by
  intro Q hQ
  show av_Ev l RX4 cX4_isMember 4 (some .boolean) av_E0 1 0 [(0, .ref 0), (1, .int (nI s)), (2, .int (nI n)), (3, .int (nI ch))] [] σ Q
  refine ev_aload_n dX4_isMember_0 rfl 0 rfl ?_
  refine ev_getR dX4_isMember_1 C_X4 L_X4_31 (by decide) (by decide) sh_0 rfl ?_
  refine ev_iload_n dX4_isMember_4 rfl 1 rfl ?_
  refine ev_iload_n dX4_isMember_5 rfl 3 rfl ?_
  refine ev_callSi (x := nI (s * 4 + ch)) dX4_isMember_6 (Or.inl M_X4_111) Y_X4_channelCell [.int (nI s), .int (nI ch)] (c_X4_channelCell s ch ) (by decide) (Nat.le_of_ble_eq_true rfl) rfl rfl (Nat.le_of_ble_eq_true rfl) ?_
  refine ev_iald (e := s * 4 + ch) (v := σ 3 (s * 4 + ch)) dX4_isMember_9 (by decide) sh_3 (by omega) (by decide) rfl ?_
  refine ev_iload_n dX4_isMember_10 rfl 2 rfl ?_
  refine ev_callSi (x := b2i (tb (σ 3 (s * 4 + ch)) n)) dX4_isMember_11 (Or.inr M_X4_59) Y_X5_hasBit [.int (σ 3 (s * 4 + ch)), .int (nI n)] (c_X5_hasBit (σ 3 (s * 4 + ch)) n (by omega)) (by decide) (Nat.le_of_ble_eq_true rfl) rfl rfl (Nat.le_of_ble_eq_true rfl) ?_
  exact ev_ireturn dX4_isMember_14 rfl (b2i_narrow _) (leafI hQ rfl rfl)

set_option maxRecDepth 100000 in
set_option maxHeartbeats 1000000 in
theorem c_X4_isOperator {l : Launch} {σ : av_S} (s : Nat) (n : Nat) (ch : Nat) (hs : s < 6) (hn : n < 32) (hc : ch < 4) : av_M l RX4 cX4_isOperator 4 (some .boolean) 1 [.ref 0, .int (nI s), .int (nI n), .int (nI ch)] σ (some (.int (b2i (tb (σ 4 (s * 4 + ch)) n)))) σ := by
  intro Q hQ
  show av_Ev l RX4 cX4_isOperator 4 (some .boolean) av_E0 1 0 [(0, .ref 0), (1, .int (nI s)), (2, .int (nI n)), (3, .int (nI ch))] [] σ Q
  refine ev_aload_n dX4_isOperator_0 rfl 0 rfl ?_
  refine ev_getR dX4_isOperator_1 C_X4 L_X4_34 (by decide) (by decide) sh_0 rfl ?_
  refine ev_iload_n dX4_isOperator_4 rfl 1 rfl ?_
  refine ev_iload_n dX4_isOperator_5 rfl 3 rfl ?_
  refine ev_callSi (x := nI (s * 4 + ch)) dX4_isOperator_6 (Or.inl M_X4_111) Y_X4_channelCell [.int (nI s), .int (nI ch)] (c_X4_channelCell s ch ) (by decide) (Nat.le_of_ble_eq_true rfl) rfl rfl (Nat.le_of_ble_eq_true rfl) ?_
  refine ev_iald (e := s * 4 + ch) (v := σ 4 (s * 4 + ch)) dX4_isOperator_9 (by decide) sh_4 (by omega) (by decide) rfl ?_
  refine ev_iload_n dX4_isOperator_10 rfl 2 rfl ?_
  refine ev_callSi (x := b2i (tb (σ 4 (s * 4 + ch)) n)) dX4_isOperator_11 (Or.inr M_X4_59) Y_X5_hasBit [.int (σ 4 (s * 4 + ch)), .int (nI n)] (c_X5_hasBit (σ 4 (s * 4 + ch)) n (by omega)) (by decide) (Nat.le_of_ble_eq_true rfl) rfl rfl (Nat.le_of_ble_eq_true rfl) ?_
  exact ev_ireturn dX4_isOperator_14 rfl (b2i_narrow _) (leafI hQ rfl rfl)

set_option maxRecDepth 100000 in
set_option maxHeartbeats 1000000 in
theorem c_X4_countChannelsOf {l : Launch} {σ : av_S} (s : Nat) (n : Nat) (hs : s < 6) (hn : n < 10) : av_M l RX4 cX4_countChannelsOf 5 (some .int) 2 [.ref 0, .int (nI s), .int (nI n)] σ (some (.int (nI (cc4 (σ 3) s n)))) σ := by
  intro Q hQ
  show av_Ev l RX4 cX4_countChannelsOf 5 (some .int) av_E0 2 0 [(0, .ref 0), (1, .int (nI s)), (2, .int (nI n))] [] σ Q
  refine ev_iconst dX4_countChannelsOf_0 (v := nI 0) (by decide) ?_
  refine ev_istore_n (lv' := [(3, .int (nI 0)), (0, .ref 0), (1, .int (nI s)), (2, .int (nI n))]) dX4_countChannelsOf_1 rfl (by decide) rfl ?_
  refine ev_iconst dX4_countChannelsOf_2 (v := nI 0) (by decide) ?_
  refine ev_istore (lv' := [(4, .int (nI 0)), (3, .int (nI 0)), (0, .ref 0), (1, .int (nI s)), (2, .int (nI n))]) dX4_countChannelsOf_3 (by decide) rfl ?_
  refine ev_lv (lv' := [(0, .ref 0), (1, .int (nI s)), (2, .int (nI n)), (3, .int (nI 0)), (4, .int (nI 0))]) [2, 3, 4, 1, 0] rfl ?_
  refine loop_up (fun k => av_Ev l RX4 cX4_countChannelsOf 5 (some .int) av_E0 2 5 [(0, .ref 0), (1, .int (nI s)), (2, .int (nI n)), (3, .int (nI (fo k (fun ch c => bif tb (σ 3 (s * 4 + ch)) n then c + 1 else c) 0))), (4, .int (nI k))] [] σ Q) 4 ?_ ?_
  · show av_Ev l RX4 cX4_countChannelsOf 5 (some .int) av_E0 2 5 [(0, .ref 0), (1, .int (nI s)), (2, .int (nI n)), (3, .int (nI (fo 4 (fun ch c => bif tb (σ 3 (s * 4 + ch)) n then c + 1 else c) 0))), (4, .int (nI 4))] [] σ Q
    refine ev_iload dX4_countChannelsOf_5 4 rfl ?_
    refine ev_iconst dX4_countChannelsOf_7 (v := nI 4) (by decide) ?_
    refine ev_ncmp_ge (tgt := 31) dX4_countChannelsOf_8 (by decide) (by omega) (by omega) (fun h8 => ?_) (fun h8 => ?_)
    · refine ev_iload_n dX4_countChannelsOf_31 rfl 3 rfl ?_
      exact ev_ireturn dX4_countChannelsOf_32 rfl rfl (leafI hQ (by first | rfl | (simp [h8]; done)) rfl)
    · exact absurd h8 (by omega)
  · intro k hk ihk
    show av_Ev l RX4 cX4_countChannelsOf 5 (some .int) av_E0 2 5 [(0, .ref 0), (1, .int (nI s)), (2, .int (nI n)), (3, .int (nI (fo k (fun ch c => bif tb (σ 3 (s * 4 + ch)) n then c + 1 else c) 0))), (4, .int (nI k))] [] σ Q
    refine ev_iload dX4_countChannelsOf_5 4 rfl ?_
    refine ev_iconst dX4_countChannelsOf_7 (v := nI 4) (by decide) ?_
    refine ev_ncmp_ge (tgt := 31) dX4_countChannelsOf_8 (by decide) (by omega) (by omega) (fun h8 => ?_) (fun h8 => ?_)
    · exact absurd h8 (by omega)
    · refine ev_aload_n dX4_countChannelsOf_11 rfl 0 rfl ?_
      refine ev_iload_n dX4_countChannelsOf_12 rfl 1 rfl ?_
      refine ev_iload_n dX4_countChannelsOf_13 rfl 2 rfl ?_
      refine ev_iload dX4_countChannelsOf_14 4 rfl ?_
      refine ev_callVi (x := b2i (tb (σ 3 (s * 4 + k)) n)) dX4_countChannelsOf_16 M_X4_87 Y_X4_isMember [.int (nI s), .int (nI n), .int (nI k)] (c_X4_isMember s n k (by omega) (by omega) (by omega)) (by decide) (Nat.le_of_ble_eq_true rfl) (by decide) sh_0 rfl rfl rfl (Nat.le_of_ble_eq_true rfl) ?_
      refine ev_ifb_eq (tgt := 25) dX4_countChannelsOf_19 (by decide) (fun h19 => ?_) (fun h19 => ?_)
      · refine ev_iinc (lv' := [(4, .int (nI (k + 1))), (0, .ref 0), (1, .int (nI s)), (2, .int (nI n)), (3, .int (nI (fo k (fun ch c => bif tb (σ 3 (s * 4 + ch)) n then c + 1 else c) 0)))]) dX4_countChannelsOf_25 4 rfl (nI_inc k) (by decide) rfl ?_
        refine ev_goto (tgt := 5) dX4_countChannelsOf_28 (by decide) ?_
        refine ev_lv (lv' := [(0, .ref 0), (1, .int (nI s)), (2, .int (nI n)), (3, .int (nI (fo k (fun ch c => bif tb (σ 3 (s * 4 + ch)) n then c + 1 else c) 0))), (4, .int (nI (k + 1)))]) [1, 2, 3, 4, 0] rfl ?_
        have ih9 : av_Ev l RX4 cX4_countChannelsOf 5 (some .int) av_E0 2 5 [(0, .ref 0), (1, .int (nI s)), (2, .int (nI n)), (3, .int (nI (fo (k + 1) (fun ch c => bif tb (σ 3 (s * 4 + ch)) n then c + 1 else c) 0))), (4, .int (nI (k + 1)))] [] σ Q := ihk
        rw [show nI (fo (k + 1) (fun ch c => bif tb (σ 3 (s * 4 + ch)) n then c + 1 else c) 0) = nI (fo k (fun ch c => bif tb (σ 3 (s * 4 + ch)) n then c + 1 else c) 0) from (by simp [fo_s, h8, h19])] at ih9
        exact ih9
      · refine ev_iinc (lv' := [(3, .int (nI (fo k (fun ch c => bif tb (σ 3 (s * 4 + ch)) n then c + 1 else c) 0 + 1))), (0, .ref 0), (1, .int (nI s)), (2, .int (nI n)), (4, .int (nI k))]) dX4_countChannelsOf_22 3 rfl (nI_inc (fo k (fun ch c => bif tb (σ 3 (s * 4 + ch)) n then c + 1 else c) 0)) (by decide) rfl ?_
        refine ev_iinc (lv' := [(4, .int (nI (k + 1))), (3, .int (nI (fo k (fun ch c => bif tb (σ 3 (s * 4 + ch)) n then c + 1 else c) 0 + 1))), (0, .ref 0), (1, .int (nI s)), (2, .int (nI n))]) dX4_countChannelsOf_25 4 rfl (nI_inc k) (by decide) rfl ?_
        refine ev_goto (tgt := 5) dX4_countChannelsOf_28 (by decide) ?_
        refine ev_lv (lv' := [(0, .ref 0), (1, .int (nI s)), (2, .int (nI n)), (3, .int (nI (fo k (fun ch c => bif tb (σ 3 (s * 4 + ch)) n then c + 1 else c) 0 + 1))), (4, .int (nI (k + 1)))]) [2, 3, 4, 1, 0] rfl ?_
        have ih9 : av_Ev l RX4 cX4_countChannelsOf 5 (some .int) av_E0 2 5 [(0, .ref 0), (1, .int (nI s)), (2, .int (nI n)), (3, .int (nI (fo (k + 1) (fun ch c => bif tb (σ 3 (s * 4 + ch)) n then c + 1 else c) 0))), (4, .int (nI (k + 1)))] [] σ Q := ihk
        rw [show nI (fo (k + 1) (fun ch c => bif tb (σ 3 (s * 4 + ch)) n then c + 1 else c) 0) = nI (fo k (fun ch c => bif tb (σ 3 (s * 4 + ch)) n then c + 1 else c) 0 + 1) from (by simp [fo_s, h8, h19])] at ih9
        exact ih9

set_option maxRecDepth 100000 in
set_option maxHeartbeats 1000000 in
theorem c_X4_addUser {l : Launch} {σ : av_S} (s : Nat) (n : Nat) (hs : s < 6) (hn : n < 10) : av_M l RX4 cX4_addUser 3 none 1 [.ref 0, .int (nI s), .int (nI n)] σ none (av_set σ 2 (upd (σ 2) (s * 10 + n) (σ 0 1))) := by
  intro Q hQ
  show av_Ev l RX4 cX4_addUser 3 none av_E0 1 0 [(0, .ref 0), (1, .int (nI s)), (2, .int (nI n))] [] σ Q
  refine ev_aload_n dX4_addUser_0 rfl 0 rfl ?_
  refine ev_getR dX4_addUser_1 C_X4 L_X4_28 (by decide) (by decide) sh_0 rfl ?_
  refine ev_iload_n dX4_addUser_4 rfl 1 rfl ?_
  refine ev_iload_n dX4_addUser_5 rfl 2 rfl ?_
  refine ev_callSi (x := nI (s * 10 + n)) dX4_addUser_6 (Or.inl M_X4_74) Y_X4_userCell [.int (nI s), .int (nI n)] (c_X4_userCell s n ) (by decide) (Nat.le_of_ble_eq_true rfl) rfl rfl (Nat.le_of_ble_eq_true rfl) ?_
  refine ev_aload_n dX4_addUser_9 rfl 0 rfl ?_
  refine ev_getI dX4_addUser_10 C_X4 L_X4_15 (by decide) (by decide) sh_0 rfl ?_
  refine ev_iast (e := s * 10 + n) dX4_addUser_13 (by decide) sh_2 (by omega) (by decide) ?_
  exact ev_return dX4_addUser_14 rfl (leafV hQ rfl)

set_option maxRecDepth 100000 in
set_option maxHeartbeats 1000000 in
theorem c_X4_addMember {l : Launch} {σ : av_S} (s : Nat) (n : Nat) (ch : Nat) (hs : s < 6) (hn : n < 10) (hc : ch < 4) : av_M l RX4 cX4_addMember 5 none 1 [.ref 0, .int (nI s), .int (nI n), .int (nI ch)] σ none (av_set σ 3 (adM (σ 3) s n ch)) := by
  intro Q hQ
  show av_Ev l RX4 cX4_addMember 5 none av_E0 1 0 [(0, .ref 0), (1, .int (nI s)), (2, .int (nI n)), (3, .int (nI ch))] [] σ Q
  refine ev_iload_n dX4_addMember_0 rfl 1 rfl ?_
  refine ev_iload_n dX4_addMember_1 rfl 3 rfl ?_
  refine ev_callSi (x := nI (s * 4 + ch)) dX4_addMember_2 (Or.inl M_X4_111) Y_X4_channelCell [.int (nI s), .int (nI ch)] (c_X4_channelCell s ch ) (by decide) (Nat.le_of_ble_eq_true rfl) rfl rfl (Nat.le_of_ble_eq_true rfl) ?_
  refine ev_istore (lv' := [(4, .int (nI (s * 4 + ch))), (0, .ref 0), (1, .int (nI s)), (2, .int (nI n)), (3, .int (nI ch))]) dX4_addMember_5 (by decide) rfl ?_
  refine ev_aload_n dX4_addMember_7 rfl 1 rfl ?_
  refine ev_getR dX4_addMember_8 C_X4 L_X4_31 (by decide) (by decide) sh_0 rfl ?_
  refine ev_iload dX4_addMember_11 0 rfl ?_
  refine ev_aload_n dX4_addMember_13 rfl 1 rfl ?_
  refine ev_getR dX4_addMember_14 C_X4 L_X4_31 (by decide) (by decide) sh_0 rfl ?_
  refine ev_iload dX4_addMember_17 0 rfl ?_
  refine ev_iald (e := s * 4 + ch) (v := σ 3 (s * 4 + ch)) dX4_addMember_19 (by decide) sh_3 (by omega) (by decide) rfl ?_
  refine ev_iload_n dX4_addMember_20 rfl 3 rfl ?_
  refine ev_iconst dX4_addMember_21 (v := nI 1) (by decide) ?_
  refine ev_callSi (x := wb (σ 3 (s * 4 + ch)) n true) dX4_addMember_22 (Or.inr M_X4_63) Y_X5_withBit [.int (σ 3 (s * 4 + ch)), .int (nI n), .int (b2i true)] (c_X5_withBit (σ 3 (s * 4 + ch)) n true (by omega)) (by decide) (Nat.le_of_ble_eq_true rfl) rfl rfl (Nat.le_of_ble_eq_true rfl) ?_
  refine ev_iast (e := s * 4 + ch) dX4_addMember_25 (by decide) sh_3 (by omega) (by decide) ?_
  exact ev_return dX4_addMember_26 rfl (leafV hQ rfl)

set_option maxRecDepth 100000 in
set_option maxHeartbeats 1000000 in
theorem c_X4_addOperator {l : Launch} {σ : av_S} (s : Nat) (n : Nat) (ch : Nat) (hs : s < 6) (hn : n < 10) (hc : ch < 4) : av_M l RX4 cX4_addOperator 5 none 1 [.ref 0, .int (nI s), .int (nI n), .int (nI ch)] σ none (av_set σ 4 (adM (σ 4) s n ch)) := by
  intro Q hQ
  show av_Ev l RX4 cX4_addOperator 5 none av_E0 1 0 [(0, .ref 0), (1, .int (nI s)), (2, .int (nI n)), (3, .int (nI ch))] [] σ Q
  refine ev_iload_n dX4_addOperator_0 rfl 1 rfl ?_
  refine ev_iload_n dX4_addOperator_1 rfl 3 rfl ?_
  refine ev_callSi (x := nI (s * 4 + ch)) dX4_addOperator_2 (Or.inl M_X4_111) Y_X4_channelCell [.int (nI s), .int (nI ch)] (c_X4_channelCell s ch ) (by decide) (Nat.le_of_ble_eq_true rfl) rfl rfl (Nat.le_of_ble_eq_true rfl) ?_
  refine ev_istore (lv' := [(4, .int (nI (s * 4 + ch))), (0, .ref 0), (1, .int (nI s)), (2, .int (nI n)), (3, .int (nI ch))]) dX4_addOperator_5 (by decide) rfl ?_
  refine ev_aload_n dX4_addOperator_7 rfl 1 rfl ?_
  refine ev_getR dX4_addOperator_8 C_X4 L_X4_34 (by decide) (by decide) sh_0 rfl ?_
  refine ev_iload dX4_addOperator_11 0 rfl ?_
  refine ev_aload_n dX4_addOperator_13 rfl 1 rfl ?_
  refine ev_getR dX4_addOperator_14 C_X4 L_X4_34 (by decide) (by decide) sh_0 rfl ?_
  refine ev_iload dX4_addOperator_17 0 rfl ?_
  refine ev_iald (e := s * 4 + ch) (v := σ 4 (s * 4 + ch)) dX4_addOperator_19 (by decide) sh_4 (by omega) (by decide) rfl ?_
  refine ev_iload_n dX4_addOperator_20 rfl 3 rfl ?_
  refine ev_iconst dX4_addOperator_21 (v := nI 1) (by decide) ?_
  refine ev_callSi (x := wb (σ 4 (s * 4 + ch)) n true) dX4_addOperator_22 (Or.inr M_X4_63) Y_X5_withBit [.int (σ 4 (s * 4 + ch)), .int (nI n), .int (b2i true)] (c_X5_withBit (σ 4 (s * 4 + ch)) n true (by omega)) (by decide) (Nat.le_of_ble_eq_true rfl) rfl rfl (Nat.le_of_ble_eq_true rfl) ?_
  refine ev_iast (e := s * 4 + ch) dX4_addOperator_25 (by decide) sh_4 (by omega) (by decide) ?_
  exact ev_return dX4_addOperator_26 rfl (leafV hQ rfl)

set_option maxRecDepth 100000 in
set_option maxHeartbeats 1000000 in
theorem c_X4_removeMember {l : Launch} {σ : av_S} (s : Nat) (n : Nat) (ch : Nat) (hs : s < 6) (hn : n < 10) (hc : ch < 4) : av_M l RX4 cX4_removeMember 5 none 1 [.ref 0, .int (nI s), .int (nI n), .int (nI ch)] σ none (av_set (av_set σ 3 (rmM (σ 3) s n ch)) 4 (rmM (σ 4) s n ch)) := by
  intro Q hQ
  show av_Ev l RX4 cX4_removeMember 5 none av_E0 1 0 [(0, .ref 0), (1, .int (nI s)), (2, .int (nI n)), (3, .int (nI ch))] [] σ Q
  refine ev_iload_n dX4_removeMember_0 rfl 1 rfl ?_
  refine ev_iload_n dX4_removeMember_1 rfl 3 rfl ?_
  refine ev_callSi (x := nI (s * 4 + ch)) dX4_removeMember_2 (Or.inl M_X4_111) Y_X4_channelCell [.int (nI s), .int (nI ch)] (c_X4_channelCell s ch ) (by decide) (Nat.le_of_ble_eq_true rfl) rfl rfl (Nat.le_of_ble_eq_true rfl) ?_
  refine ev_istore (lv' := [(4, .int (nI (s * 4 + ch))), (0, .ref 0), (1, .int (nI s)), (2, .int (nI n)), (3, .int (nI ch))]) dX4_removeMember_5 (by decide) rfl ?_
  refine ev_aload_n dX4_removeMember_7 rfl 1 rfl ?_
  refine ev_getR dX4_removeMember_8 C_X4 L_X4_31 (by decide) (by decide) sh_0 rfl ?_
  refine ev_iload dX4_removeMember_11 0 rfl ?_
  refine ev_aload_n dX4_removeMember_13 rfl 1 rfl ?_
  refine ev_getR dX4_removeMember_14 C_X4 L_X4_31 (by decide) (by decide) sh_0 rfl ?_
  refine ev_iload dX4_removeMember_17 0 rfl ?_
  refine ev_iald (e := s * 4 + ch) (v := σ 3 (s * 4 + ch)) dX4_removeMember_19 (by decide) sh_3 (by omega) (by decide) rfl ?_
  refine ev_iload_n dX4_removeMember_20 rfl 3 rfl ?_
  refine ev_iconst dX4_removeMember_21 (v := nI 0) (by decide) ?_
  refine ev_callSi (x := wb (σ 3 (s * 4 + ch)) n false) dX4_removeMember_22 (Or.inr M_X4_63) Y_X5_withBit [.int (σ 3 (s * 4 + ch)), .int (nI n), .int (b2i false)] (c_X5_withBit (σ 3 (s * 4 + ch)) n false (by omega)) (by decide) (Nat.le_of_ble_eq_true rfl) rfl rfl (Nat.le_of_ble_eq_true rfl) ?_
  refine ev_iast (e := s * 4 + ch) dX4_removeMember_25 (by decide) sh_3 (by omega) (by decide) ?_
  refine ev_aload_n dX4_removeMember_26 rfl 1 rfl ?_
  refine ev_getR dX4_removeMember_27 C_X4 L_X4_34 (by decide) (by decide) sh_0 rfl ?_
  refine ev_iload dX4_removeMember_30 0 rfl ?_
  refine ev_aload_n dX4_removeMember_32 rfl 1 rfl ?_
  refine ev_getR dX4_removeMember_33 C_X4 L_X4_34 (by decide) (by decide) sh_0 rfl ?_
  refine ev_iload dX4_removeMember_36 0 rfl ?_
  refine ev_iald (e := s * 4 + ch) (v := σ 4 (s * 4 + ch)) dX4_removeMember_38 (by decide) sh_4 (by omega) (by decide) (by first | rfl | (simp only [av_set, cpS]; (repeat' split) <;> first | rfl | (exfalso; omega))) ?_
  refine ev_iload_n dX4_removeMember_39 rfl 3 rfl ?_
  refine ev_iconst dX4_removeMember_40 (v := nI 0) (by decide) ?_
  refine ev_callSi (x := wb (σ 4 (s * 4 + ch)) n false) dX4_removeMember_41 (Or.inr M_X4_63) Y_X5_withBit [.int (σ 4 (s * 4 + ch)), .int (nI n), .int (b2i false)] (c_X5_withBit (σ 4 (s * 4 + ch)) n false (by omega)) (by decide) (Nat.le_of_ble_eq_true rfl) rfl rfl (Nat.le_of_ble_eq_true rfl) ?_
  refine ev_iast (e := s * 4 + ch) dX4_removeMember_44 (by decide) sh_4 (by omega) (by decide) ?_
  refine ev_st (σ' := av_set (av_set σ 3 (upd (σ 3) (s * 4 + ch) (wb (σ 3 (s * 4 + ch)) n false))) 4 (upd (σ 4) (s * 4 + ch) (wb (σ 4 (s * 4 + ch)) n false))) (by first | rfl | exact av_set_set _ _ _ _ | (funext a; unfold av_set; (repeat' split) <;> first | rfl | (exfalso; omega)) | (funext a; simp only [av_set, cpS]; (repeat' split) <;> first | rfl | (exfalso; omega))) ?_
  exact ev_return dX4_removeMember_45 rfl (leafV hQ rfl)

set_option maxRecDepth 100000 in
set_option maxHeartbeats 1000000 in
theorem c_X4_removeUser {l : Launch} {σ : av_S} (s : Nat) (n : Nat) (hs : s < 6) (hn : n < 10) : av_M l RX4 cX4_removeUser 4 none 2 [.ref 0, .int (nI s), .int (nI n)] σ none (av_set (av_set (av_set σ 2 (upd (σ 2) (s * 10 + n) (-1))) 3 (rmA (σ 3) s n)) 4 (rmA (σ 4) s n)) := by
  intro Q hQ
  show av_Ev l RX4 cX4_removeUser 4 none av_E0 2 0 [(0, .ref 0), (1, .int (nI s)), (2, .int (nI n))] [] σ Q
  refine ev_aload_n dX4_removeUser_0 rfl 0 rfl ?_
  refine ev_getR dX4_removeUser_1 C_X4 L_X4_28 (by decide) (by decide) sh_0 rfl ?_
  refine ev_iload_n dX4_removeUser_4 rfl 1 rfl ?_
  refine ev_iload_n dX4_removeUser_5 rfl 2 rfl ?_
  refine ev_callSi (x := nI (s * 10 + n)) dX4_removeUser_6 (Or.inl M_X4_74) Y_X4_userCell [.int (nI s), .int (nI n)] (c_X4_userCell s n ) (by decide) (Nat.le_of_ble_eq_true rfl) rfl rfl (Nat.le_of_ble_eq_true rfl) ?_
  refine ev_iconst dX4_removeUser_9 (v := (-1)) (by decide) ?_
  refine ev_iast (e := s * 10 + n) dX4_removeUser_10 (by decide) sh_2 (by omega) (by decide) ?_
  refine ev_iconst dX4_removeUser_11 (v := nI 0) (by decide) ?_
  refine ev_istore_n (lv' := [(3, .int (nI 0)), (0, .ref 0), (1, .int (nI s)), (2, .int (nI n))]) dX4_removeUser_12 rfl (by decide) rfl ?_
  refine ev_lv (lv' := [(0, .ref 0), (1, .int (nI s)), (2, .int (nI n)), (3, .int (nI 0))]) [1, 2, 3, 0] rfl ?_
  refine ev_st (σ' := av_set (av_set (av_set σ 2 (upd (σ 2) (s * 10 + n) (-1))) 3 (fo 0 (fun ch M => rmM M s n ch) (σ 3))) 4 (fo 0 (fun ch M => rmM M s n ch) (σ 4))) (by simp only [fo_0]; first | rfl | (funext a; unfold av_set; (repeat' split) <;> first | rfl | (subst_vars; rfl) | (exfalso; omega))) ?_
  refine loop_up (fun k => av_Ev l RX4 cX4_removeUser 4 none av_E0 2 13 [(0, .ref 0), (1, .int (nI s)), (2, .int (nI n)), (3, .int (nI k))] [] (av_set (av_set (av_set σ 2 (upd (σ 2) (s * 10 + n) (-1))) 3 (fo k (fun ch M => rmM M s n ch) (σ 3))) 4 (fo k (fun ch M => rmM M s n ch) (σ 4))) Q) 4 ?_ ?_
  · show av_Ev l RX4 cX4_removeUser 4 none av_E0 2 13 [(0, .ref 0), (1, .int (nI s)), (2, .int (nI n)), (3, .int (nI 4))] [] (av_set (av_set (av_set σ 2 (upd (σ 2) (s * 10 + n) (-1))) 3 (fo 4 (fun ch M => rmM M s n ch) (σ 3))) 4 (fo 4 (fun ch M => rmM M s n ch) (σ 4))) Q
    refine ev_iload_n dX4_removeUser_13 rfl 3 rfl ?_
    refine ev_iconst dX4_removeUser_14 (v := nI 4) (by decide) ?_
    refine ev_ncmp_ge (tgt := 31) dX4_removeUser_15 (by decide) (by omega) (by omega) (fun h15 => ?_) (fun h15 => ?_)
    · exact ev_return dX4_removeUser_31 rfl (leafV hQ rfl)
    · exact absurd h15 (by omega)
  · intro k hk ihk
    show av_Ev l RX4 cX4_removeUser 4 none av_E0 2 13 [(0, .ref 0), (1, .int (nI s)), (2, .int (nI n)), (3, .int (nI k))] [] (av_set (av_set (av_set σ 2 (upd (σ 2) (s * 10 + n) (-1))) 3 (fo k (fun ch M => rmM M s n ch) (σ 3))) 4 (fo k (fun ch M => rmM M s n ch) (σ 4))) Q
    refine ev_iload_n dX4_removeUser_13 rfl 3 rfl ?_
    refine ev_iconst dX4_removeUser_14 (v := nI 4) (by decide) ?_
    refine ev_ncmp_ge (tgt := 31) dX4_removeUser_15 (by decide) (by omega) (by omega) (fun h15 => ?_) (fun h15 => ?_)
    · exact absurd h15 (by omega)
    · refine ev_aload_n dX4_removeUser_18 rfl 0 rfl ?_
      refine ev_iload_n dX4_removeUser_19 rfl 1 rfl ?_
      refine ev_iload_n dX4_removeUser_20 rfl 2 rfl ?_
      refine ev_iload_n dX4_removeUser_21 rfl 3 rfl ?_
      refine ev_callVv dX4_removeUser_22 M_X4_91 Y_X4_removeMember [.int (nI s), .int (nI n), .int (nI k)] (c_X4_removeMember s n k (by omega) (by omega) (by omega)) (by decide) (Nat.le_of_ble_eq_true rfl) (by decide) sh_0 rfl rfl rfl (Nat.le_of_ble_eq_true rfl) ?_
      refine ev_st (σ' := av_set (av_set (av_set σ 2 (upd (σ 2) (s * 10 + n) (-1))) 3 (rmM ((fo k (fun ch M => rmM M s n ch) (σ 3))) s n k)) 4 (rmM ((fo k (fun ch M => rmM M s n ch) (σ 4))) s n k)) (by first | rfl | exact av_set_set _ _ _ _ | (funext a; unfold av_set; (repeat' split) <;> first | rfl | (exfalso; omega)) | (funext a; simp only [av_set, cpS]; (repeat' split) <;> first | rfl | (exfalso; omega))) ?_
      refine ev_iinc (lv' := [(3, .int (nI (k + 1))), (0, .ref 0), (1, .int (nI s)), (2, .int (nI n))]) dX4_removeUser_25 3 rfl (nI_inc k) (by decide) rfl ?_
      refine ev_goto (tgt := 13) dX4_removeUser_28 (by decide) ?_
      refine ev_lv (lv' := [(0, .ref 0), (1, .int (nI s)), (2, .int (nI n)), (3, .int (nI (k + 1)))]) [1, 2, 3, 0] rfl ?_
      have ih9 : av_Ev l RX4 cX4_removeUser 4 none av_E0 2 13 [(0, .ref 0), (1, .int (nI s)), (2, .int (nI n)), (3, .int (nI (k + 1)))] [] (av_set (av_set (av_set σ 2 (upd (σ 2) (s * 10 + n) (-1))) 3 (fo (k + 1) (fun ch M => rmM M s n ch) (σ 3))) 4 (fo (k + 1) (fun ch M => rmM M s n ch) (σ 4))) Q := ihk
      rw [show av_set (av_set (av_set σ 2 (upd (σ 2) (s * 10 + n) (-1))) 3 (fo (k + 1) (fun ch M => rmM M s n ch) (σ 3))) 4 (fo (k + 1) (fun ch M => rmM M s n ch) (σ 4)) = av_set (av_set (av_set σ 2 (upd (σ 2) (s * 10 + n) (-1))) 3 (rmM ((fo k (fun ch M => rmM M s n ch) (σ 3))) s n k)) 4 (rmM ((fo k (fun ch M => rmM M s n ch) (σ 4))) s n k) from rfl] at ih9
      exact ih9

set_option maxRecDepth 100000 in
set_option maxHeartbeats 1000000 in
theorem c_X4_unionOf3 {l : Launch} {σ : av_S} (S : Int32) (ch : Nat) (hc : ch < 4) : av_M l RX4 cX4_unionOf 5 (some .int) 1 [.ref 3, .int S, .int (nI ch)] σ (some (.int (un (σ 3) S ch))) σ := by
  intro Q hQ
  show av_Ev l RX4 cX4_unionOf 5 (some .int) av_E0 1 0 [(0, .ref 3), (1, .int S), (2, .int (nI ch))] [] σ Q
  refine ev_iconst dX4_unionOf_0 (v := nI 0) (by decide) ?_
  refine ev_istore_n (lv' := [(3, .int (nI 0)), (0, .ref 3), (1, .int S), (2, .int (nI ch))]) dX4_unionOf_1 rfl (by decide) rfl ?_
  refine ev_iconst dX4_unionOf_2 (v := nI 0) (by decide) ?_
  refine ev_istore (lv' := [(4, .int (nI 0)), (3, .int (nI 0)), (0, .ref 3), (1, .int S), (2, .int (nI ch))]) dX4_unionOf_3 (by decide) rfl ?_
  refine ev_lv (lv' := [(0, .ref 3), (1, .int S), (2, .int (nI ch)), (3, .int (nI 0)), (4, .int (nI 0))]) [2, 3, 4, 1, 0] rfl ?_
  refine loop_up (fun k => av_Ev l RX4 cX4_unionOf 5 (some .int) av_E0 1 5 [(0, .ref 3), (1, .int S), (2, .int (nI ch)), (3, .int (fo k (fun s a => bif tb S s then a ||| σ 3 (s * 4 + ch) else a) (nI 0))), (4, .int (nI k))] [] σ Q) 6 ?_ ?_
  · show av_Ev l RX4 cX4_unionOf 5 (some .int) av_E0 1 5 [(0, .ref 3), (1, .int S), (2, .int (nI ch)), (3, .int (fo 6 (fun s a => bif tb S s then a ||| σ 3 (s * 4 + ch) else a) (nI 0))), (4, .int (nI 6))] [] σ Q
    refine ev_iload dX4_unionOf_5 4 rfl ?_
    refine ev_bipush dX4_unionOf_7 (v := nI 6) (by decide) ?_
    refine ev_ncmp_ge (tgt := 38) dX4_unionOf_9 (by decide) (by omega) (by omega) (fun h9 => ?_) (fun h9 => ?_)
    · refine ev_iload_n dX4_unionOf_38 rfl 3 rfl ?_
      exact ev_ireturn dX4_unionOf_39 rfl rfl (leafI hQ (by first | rfl | (simp [h9]; done)) rfl)
    · exact absurd h9 (by omega)
  · intro k hk ihk
    show av_Ev l RX4 cX4_unionOf 5 (some .int) av_E0 1 5 [(0, .ref 3), (1, .int S), (2, .int (nI ch)), (3, .int (fo k (fun s a => bif tb S s then a ||| σ 3 (s * 4 + ch) else a) (nI 0))), (4, .int (nI k))] [] σ Q
    refine ev_iload dX4_unionOf_5 4 rfl ?_
    refine ev_bipush dX4_unionOf_7 (v := nI 6) (by decide) ?_
    refine ev_ncmp_ge (tgt := 38) dX4_unionOf_9 (by decide) (by omega) (by omega) (fun h9 => ?_) (fun h9 => ?_)
    · exact absurd h9 (by omega)
    · refine ev_iload_n dX4_unionOf_12 rfl 1 rfl ?_
      refine ev_iload dX4_unionOf_13 4 rfl ?_
      refine ev_callSi (x := b2i (tb S k)) dX4_unionOf_15 (Or.inr M_X4_59) Y_X5_hasBit [.int S, .int (nI k)] (c_X5_hasBit S k (by omega)) (by decide) (Nat.le_of_ble_eq_true rfl) rfl rfl (Nat.le_of_ble_eq_true rfl) ?_
      refine ev_ifb_eq (tgt := 32) dX4_unionOf_18 (by decide) (fun h18 => ?_) (fun h18 => ?_)
      · refine ev_iinc (lv' := [(4, .int (nI (k + 1))), (0, .ref 3), (1, .int S), (2, .int (nI ch)), (3, .int (fo k (fun s a => bif tb S s then a ||| σ 3 (s * 4 + ch) else a) (nI 0)))]) dX4_unionOf_32 4 rfl (nI_inc k) (by decide) rfl ?_
        refine ev_goto (tgt := 5) dX4_unionOf_35 (by decide) ?_
        refine ev_lv (lv' := [(0, .ref 3), (1, .int S), (2, .int (nI ch)), (3, .int (fo k (fun s a => bif tb S s then a ||| σ 3 (s * 4 + ch) else a) (nI 0))), (4, .int (nI (k + 1)))]) [1, 2, 3, 4, 0] rfl ?_
        have ih9 : av_Ev l RX4 cX4_unionOf 5 (some .int) av_E0 1 5 [(0, .ref 3), (1, .int S), (2, .int (nI ch)), (3, .int (fo (k + 1) (fun s a => bif tb S s then a ||| σ 3 (s * 4 + ch) else a) (nI 0))), (4, .int (nI (k + 1)))] [] σ Q := ihk
        rw [show fo (k + 1) (fun s a => bif tb S s then a ||| σ 3 (s * 4 + ch) else a) (nI 0) = fo k (fun s a => bif tb S s then a ||| σ 3 (s * 4 + ch) else a) (nI 0) from (by simp [fo_s, h9, h18])] at ih9
        exact ih9
      · refine ev_iload_n dX4_unionOf_21 rfl 3 rfl ?_
        refine ev_aload_n dX4_unionOf_22 rfl 0 rfl ?_
        refine ev_iload dX4_unionOf_23 4 rfl ?_
        refine ev_iload_n dX4_unionOf_25 rfl 2 rfl ?_
        refine ev_callSi (x := nI (k * 4 + ch)) dX4_unionOf_26 (Or.inl M_X4_111) Y_X4_channelCell [.int (nI k), .int (nI ch)] (c_X4_channelCell k ch ) (by decide) (Nat.le_of_ble_eq_true rfl) rfl rfl (Nat.le_of_ble_eq_true rfl) ?_
        refine ev_iald (e := k * 4 + ch) (v := σ 3 (k * 4 + ch)) dX4_unionOf_29 (by decide) sh_3 (by omega) (by decide) rfl ?_
        refine ev_ior dX4_unionOf_30 ?_
        refine ev_istore_n (lv' := [(3, .int ((fo k (fun s a => bif tb S s then a ||| σ 3 (s * 4 + ch) else a) (nI 0)) ||| (σ 3 (k * 4 + ch)))), (0, .ref 3), (1, .int S), (2, .int (nI ch)), (4, .int (nI k))]) dX4_unionOf_31 rfl (by decide) rfl ?_
        refine ev_iinc (lv' := [(4, .int (nI (k + 1))), (3, .int ((fo k (fun s a => bif tb S s then a ||| σ 3 (s * 4 + ch) else a) (nI 0)) ||| (σ 3 (k * 4 + ch)))), (0, .ref 3), (1, .int S), (2, .int (nI ch))]) dX4_unionOf_32 4 rfl (nI_inc k) (by decide) rfl ?_
        refine ev_goto (tgt := 5) dX4_unionOf_35 (by decide) ?_
        refine ev_lv (lv' := [(0, .ref 3), (1, .int S), (2, .int (nI ch)), (3, .int ((fo k (fun s a => bif tb S s then a ||| σ 3 (s * 4 + ch) else a) (nI 0)) ||| (σ 3 (k * 4 + ch)))), (4, .int (nI (k + 1)))]) [2, 3, 4, 1, 0] rfl ?_
        have ih9 : av_Ev l RX4 cX4_unionOf 5 (some .int) av_E0 1 5 [(0, .ref 3), (1, .int S), (2, .int (nI ch)), (3, .int (fo (k + 1) (fun s a => bif tb S s then a ||| σ 3 (s * 4 + ch) else a) (nI 0))), (4, .int (nI (k + 1)))] [] σ Q := ihk
        rw [show fo (k + 1) (fun s a => bif tb S s then a ||| σ 3 (s * 4 + ch) else a) (nI 0) = (fo k (fun s a => bif tb S s then a ||| σ 3 (s * 4 + ch) else a) (nI 0)) ||| (σ 3 (k * 4 + ch)) from (by simp [fo_s, h9, h18])] at ih9
        exact ih9

set_option maxRecDepth 100000 in
set_option maxHeartbeats 1000000 in
theorem c_X4_unionOf4 {l : Launch} {σ : av_S} (S : Int32) (ch : Nat) (hc : ch < 4) : av_M l RX4 cX4_unionOf 5 (some .int) 1 [.ref 4, .int S, .int (nI ch)] σ (some (.int (un (σ 4) S ch))) σ := by
  intro Q hQ
  show av_Ev l RX4 cX4_unionOf 5 (some .int) av_E0 1 0 [(0, .ref 4), (1, .int S), (2, .int (nI ch))] [] σ Q
  refine ev_iconst dX4_unionOf_0 (v := nI 0) (by decide) ?_
  refine ev_istore_n (lv' := [(3, .int (nI 0)), (0, .ref 4), (1, .int S), (2, .int (nI ch))]) dX4_unionOf_1 rfl (by decide) rfl ?_
  refine ev_iconst dX4_unionOf_2 (v := nI 0) (by decide) ?_
  refine ev_istore (lv' := [(4, .int (nI 0)), (3, .int (nI 0)), (0, .ref 4), (1, .int S), (2, .int (nI ch))]) dX4_unionOf_3 (by decide) rfl ?_
  refine ev_lv (lv' := [(0, .ref 4), (1, .int S), (2, .int (nI ch)), (3, .int (nI 0)), (4, .int (nI 0))]) [2, 3, 4, 1, 0] rfl ?_
  refine loop_up (fun k => av_Ev l RX4 cX4_unionOf 5 (some .int) av_E0 1 5 [(0, .ref 4), (1, .int S), (2, .int (nI ch)), (3, .int (fo k (fun s a => bif tb S s then a ||| σ 4 (s * 4 + ch) else a) (nI 0))), (4, .int (nI k))] [] σ Q) 6 ?_ ?_
  · show av_Ev l RX4 cX4_unionOf 5 (some .int) av_E0 1 5 [(0, .ref 4), (1, .int S), (2, .int (nI ch)), (3, .int (fo 6 (fun s a => bif tb S s then a ||| σ 4 (s * 4 + ch) else a) (nI 0))), (4, .int (nI 6))] [] σ Q
    refine ev_iload dX4_unionOf_5 4 rfl ?_
    refine ev_bipush dX4_unionOf_7 (v := nI 6) (by decide) ?_
    refine ev_ncmp_ge (tgt := 38) dX4_unionOf_9 (by decide) (by omega) (by omega) (fun h9 => ?_) (fun h9 => ?_)
    · refine ev_iload_n dX4_unionOf_38 rfl 3 rfl ?_
      exact ev_ireturn dX4_unionOf_39 rfl rfl (leafI hQ (by first | rfl | (simp [h9]; done)) rfl)
    · exact absurd h9 (by omega)
  · intro k hk ihk
    show av_Ev l RX4 cX4_unionOf 5 (some .int) av_E0 1 5 [(0, .ref 4), (1, .int S), (2, .int (nI ch)), (3, .int (fo k (fun s a => bif tb S s then a ||| σ 4 (s * 4 + ch) else a) (nI 0))), (4, .int (nI k))] [] σ Q
    refine ev_iload dX4_unionOf_5 4 rfl ?_
    refine ev_bipush dX4_unionOf_7 (v := nI 6) (by decide) ?_
    refine ev_ncmp_ge (tgt := 38) dX4_unionOf_9 (by decide) (by omega) (by omega) (fun h9 => ?_) (fun h9 => ?_)
    · exact absurd h9 (by omega)
    · refine ev_iload_n dX4_unionOf_12 rfl 1 rfl ?_
      refine ev_iload dX4_unionOf_13 4 rfl ?_
      refine ev_callSi (x := b2i (tb S k)) dX4_unionOf_15 (Or.inr M_X4_59) Y_X5_hasBit [.int S, .int (nI k)] (c_X5_hasBit S k (by omega)) (by decide) (Nat.le_of_ble_eq_true rfl) rfl rfl (Nat.le_of_ble_eq_true rfl) ?_
      refine ev_ifb_eq (tgt := 32) dX4_unionOf_18 (by decide) (fun h18 => ?_) (fun h18 => ?_)
      · refine ev_iinc (lv' := [(4, .int (nI (k + 1))), (0, .ref 4), (1, .int S), (2, .int (nI ch)), (3, .int (fo k (fun s a => bif tb S s then a ||| σ 4 (s * 4 + ch) else a) (nI 0)))]) dX4_unionOf_32 4 rfl (nI_inc k) (by decide) rfl ?_
        refine ev_goto (tgt := 5) dX4_unionOf_35 (by decide) ?_
        refine ev_lv (lv' := [(0, .ref 4), (1, .int S), (2, .int (nI ch)), (3, .int (fo k (fun s a => bif tb S s then a ||| σ 4 (s * 4 + ch) else a) (nI 0))), (4, .int (nI (k + 1)))]) [1, 2, 3, 4, 0] rfl ?_
        have ih9 : av_Ev l RX4 cX4_unionOf 5 (some .int) av_E0 1 5 [(0, .ref 4), (1, .int S), (2, .int (nI ch)), (3, .int (fo (k + 1) (fun s a => bif tb S s then a ||| σ 4 (s * 4 + ch) else a) (nI 0))), (4, .int (nI (k + 1)))] [] σ Q := ihk
        rw [show fo (k + 1) (fun s a => bif tb S s then a ||| σ 4 (s * 4 + ch) else a) (nI 0) = fo k (fun s a => bif tb S s then a ||| σ 4 (s * 4 + ch) else a) (nI 0) from (by simp [fo_s, h9, h18])] at ih9
        exact ih9
      · refine ev_iload_n dX4_unionOf_21 rfl 3 rfl ?_
        refine ev_aload_n dX4_unionOf_22 rfl 0 rfl ?_
        refine ev_iload dX4_unionOf_23 4 rfl ?_
        refine ev_iload_n dX4_unionOf_25 rfl 2 rfl ?_
        refine ev_callSi (x := nI (k * 4 + ch)) dX4_unionOf_26 (Or.inl M_X4_111) Y_X4_channelCell [.int (nI k), .int (nI ch)] (c_X4_channelCell k ch ) (by decide) (Nat.le_of_ble_eq_true rfl) rfl rfl (Nat.le_of_ble_eq_true rfl) ?_
        refine ev_iald (e := k * 4 + ch) (v := σ 4 (k * 4 + ch)) dX4_unionOf_29 (by decide) sh_4 (by omega) (by decide) rfl ?_
        refine ev_ior dX4_unionOf_30 ?_
        refine ev_istore_n (lv' := [(3, .int ((fo k (fun s a => bif tb S s then a ||| σ 4 (s * 4 + ch) else a) (nI 0)) ||| (σ 4 (k * 4 + ch)))), (0, .ref 4), (1, .int S), (2, .int (nI ch)), (4, .int (nI k))]) dX4_unionOf_31 rfl (by decide) rfl ?_
        refine ev_iinc (lv' := [(4, .int (nI (k + 1))), (3, .int ((fo k (fun s a => bif tb S s then a ||| σ 4 (s * 4 + ch) else a) (nI 0)) ||| (σ 4 (k * 4 + ch)))), (0, .ref 4), (1, .int S), (2, .int (nI ch))]) dX4_unionOf_32 4 rfl (nI_inc k) (by decide) rfl ?_
        refine ev_goto (tgt := 5) dX4_unionOf_35 (by decide) ?_
        refine ev_lv (lv' := [(0, .ref 4), (1, .int S), (2, .int (nI ch)), (3, .int ((fo k (fun s a => bif tb S s then a ||| σ 4 (s * 4 + ch) else a) (nI 0)) ||| (σ 4 (k * 4 + ch)))), (4, .int (nI (k + 1)))]) [2, 3, 4, 1, 0] rfl ?_
        have ih9 : av_Ev l RX4 cX4_unionOf 5 (some .int) av_E0 1 5 [(0, .ref 4), (1, .int S), (2, .int (nI ch)), (3, .int (fo (k + 1) (fun s a => bif tb S s then a ||| σ 4 (s * 4 + ch) else a) (nI 0))), (4, .int (nI (k + 1)))] [] σ Q := ihk
        rw [show fo (k + 1) (fun s a => bif tb S s then a ||| σ 4 (s * 4 + ch) else a) (nI 0) = (fo k (fun s a => bif tb S s then a ||| σ 4 (s * 4 + ch) else a) (nI 0)) ||| (σ 4 (k * 4 + ch)) from (by simp [fo_s, h9, h18])] at ih9
        exact ih9

set_option maxRecDepth 100000 in
set_option maxHeartbeats 1000000 in
theorem c_X4_membersIn {l : Launch} {σ : av_S} (S : Int32) (ch : Nat) (hc : ch < 4) : av_M l RX4 cX4_membersIn 3 (some .int) 2 [.ref 0, .int S, .int (nI ch)] σ (some (.int (un (σ 3) S ch))) σ := by
  intro Q hQ
  show av_Ev l RX4 cX4_membersIn 3 (some .int) av_E0 2 0 [(0, .ref 0), (1, .int S), (2, .int (nI ch))] [] σ Q
  refine ev_aload_n dX4_membersIn_0 rfl 0 rfl ?_
  refine ev_getR dX4_membersIn_1 C_X4 L_X4_31 (by decide) (by decide) sh_0 rfl ?_
  refine ev_iload_n dX4_membersIn_4 rfl 1 rfl ?_
  refine ev_iload_n dX4_membersIn_5 rfl 2 rfl ?_
  refine ev_callSi (x := un (σ 3) S ch) dX4_membersIn_6 (Or.inl M_X4_114) Y_X4_unionOf [.ref 3, .int S, .int (nI ch)] (c_X4_unionOf3 S ch (by omega)) (by decide) (Nat.le_of_ble_eq_true rfl) rfl rfl (Nat.le_of_ble_eq_true rfl) ?_
  exact ev_ireturn dX4_membersIn_9 rfl rfl (leafI hQ rfl rfl)

set_option maxRecDepth 100000 in
set_option maxHeartbeats 1000000 in
theorem c_X4_operatorsIn {l : Launch} {σ : av_S} (S : Int32) (ch : Nat) (hc : ch < 4) : av_M l RX4 cX4_operatorsIn 3 (some .int) 2 [.ref 0, .int S, .int (nI ch)] σ (some (.int (un (σ 4) S ch))) σ := by
  intro Q hQ
  show av_Ev l RX4 cX4_operatorsIn 3 (some .int) av_E0 2 0 [(0, .ref 0), (1, .int S), (2, .int (nI ch))] [] σ Q
  refine ev_aload_n dX4_operatorsIn_0 rfl 0 rfl ?_
  refine ev_getR dX4_operatorsIn_1 C_X4 L_X4_34 (by decide) (by decide) sh_0 rfl ?_
  refine ev_iload_n dX4_operatorsIn_4 rfl 1 rfl ?_
  refine ev_iload_n dX4_operatorsIn_5 rfl 2 rfl ?_
  refine ev_callSi (x := un (σ 4) S ch) dX4_operatorsIn_6 (Or.inl M_X4_114) Y_X4_unionOf [.ref 4, .int S, .int (nI ch)] (c_X4_unionOf4 S ch (by omega)) (by decide) (Nat.le_of_ble_eq_true rfl) rfl rfl (Nat.le_of_ble_eq_true rfl) ?_
  exact ev_ireturn dX4_operatorsIn_9 rfl rfl (leafI hQ rfl rfl)

set_option maxRecDepth 100000 in
set_option maxHeartbeats 1000000 in
theorem c_X4_shareNetwork {l : Launch} {σ : av_S} (a : Nat) (b : Nat) (ha : a < 6) (hb : b < 32) : av_M l RX4 cX4_shareNetwork 3 (some .boolean) 3 [.ref 0, .int (nI a), .int (nI b)] σ (some (.int (b2i (tb (net (σ 1) a) b)))) σ := by
  intro Q hQ
  show av_Ev l RX4 cX4_shareNetwork 3 (some .boolean) av_E0 3 0 [(0, .ref 0), (1, .int (nI a)), (2, .int (nI b))] [] σ Q
  refine ev_aload_n dX4_shareNetwork_0 rfl 0 rfl ?_
  refine ev_iload_n dX4_shareNetwork_1 rfl 1 rfl ?_
  refine ev_callVi (x := net (σ 1) a) dX4_shareNetwork_2 M_X4_71 Y_X4_networkOf [.int (nI a)] (c_X4_networkOf a (by omega)) (by decide) (Nat.le_of_ble_eq_true rfl) (by decide) sh_0 rfl rfl rfl (Nat.le_of_ble_eq_true rfl) ?_
  refine ev_iload_n dX4_shareNetwork_5 rfl 2 rfl ?_
  refine ev_callSi (x := b2i (tb (net (σ 1) a) b)) dX4_shareNetwork_6 (Or.inr M_X4_59) Y_X5_hasBit [.int (net (σ 1) a), .int (nI b)] (c_X5_hasBit (net (σ 1) a) b (by omega)) (by decide) (Nat.le_of_ble_eq_true rfl) rfl rfl (Nat.le_of_ble_eq_true rfl) ?_
  exact ev_ireturn dX4_shareNetwork_9 rfl (b2i_narrow _) (leafI hQ rfl rfl)

set_option maxRecDepth 100000 in
set_option maxHeartbeats 1000000 in
theorem c_X4_setOperators {l : Launch} {σ : av_S} (S : Int32) (ch : Nat) (N : Int32) (hc : ch < 4) : av_M l RX4 cX4_setOperators 6 none 1 [.ref 0, .int S, .int (nI ch), .int N] σ none (av_set σ 4 (so (σ 3) (σ 4) S ch N)) := by
  intro Q hQ
  show av_Ev l RX4 cX4_setOperators 6 none av_E0 1 0 [(0, .ref 0), (1, .int S), (2, .int (nI ch)), (3, .int N)] [] σ Q
  refine ev_iconst dX4_setOperators_0 (v := nI 0) (by decide) ?_
  refine ev_istore (lv' := [(4, .int (nI 0)), (0, .ref 0), (1, .int S), (2, .int (nI ch)), (3, .int N)]) dX4_setOperators_1 (by decide) rfl ?_
  refine ev_lv (lv' := [(0, .ref 0), (1, .int S), (2, .int (nI ch)), (3, .int N), (4, .int (nI 0))]) [1, 2, 3, 4, 0] rfl ?_
  refine ev_st (σ' := av_set σ 4 (fo 0 (fun s O => soF (σ 3) S ch N s O) (σ 4))) (by simp only [fo_0]; first | rfl | (funext a; unfold av_set; (repeat' split) <;> first | rfl | (subst_vars; rfl) | (exfalso; omega))) ?_
  refine loop_up (fun k => av_Ev l RX4 cX4_setOperators 6 none av_E0 1 3 [(0, .ref 0), (1, .int S), (2, .int (nI ch)), (3, .int N), (4, .int (nI k))] [] (av_set σ 4 (fo k (fun s O => soF (σ 3) S ch N s O) (σ 4))) Q) 6 ?_ ?_
  · show av_Ev l RX4 cX4_setOperators 6 none av_E0 1 3 [(0, .ref 0), (1, .int S), (2, .int (nI ch)), (3, .int N), (4, .int (nI 6))] [] (av_set σ 4 (fo 6 (fun s O => soF (σ 3) S ch N s O) (σ 4))) Q
    refine ev_iload dX4_setOperators_3 4 rfl ?_
    refine ev_bipush dX4_setOperators_5 (v := nI 6) (by decide) ?_
    refine ev_ncmp_ge (tgt := 49) dX4_setOperators_7 (by decide) (by omega) (by omega) (fun h7 => ?_) (fun h7 => ?_)
    · exact ev_return dX4_setOperators_49 rfl (leafV hQ rfl)
    · exact absurd h7 (by omega)
  · intro k hk ihk
    show av_Ev l RX4 cX4_setOperators 6 none av_E0 1 3 [(0, .ref 0), (1, .int S), (2, .int (nI ch)), (3, .int N), (4, .int (nI k))] [] (av_set σ 4 (fo k (fun s O => soF (σ 3) S ch N s O) (σ 4))) Q
    refine ev_iload dX4_setOperators_3 4 rfl ?_
    refine ev_bipush dX4_setOperators_5 (v := nI 6) (by decide) ?_
    refine ev_ncmp_ge (tgt := 49) dX4_setOperators_7 (by decide) (by omega) (by omega) (fun h7 => ?_) (fun h7 => ?_)
    · exact absurd h7 (by omega)
    · refine ev_iload_n dX4_setOperators_10 rfl 1 rfl ?_
      refine ev_iload dX4_setOperators_11 4 rfl ?_
      refine ev_callSi (x := b2i (tb S k)) dX4_setOperators_13 (Or.inr M_X4_59) Y_X5_hasBit [.int S, .int (nI k)] (c_X5_hasBit S k (by omega)) (by decide) (Nat.le_of_ble_eq_true rfl) rfl rfl (Nat.le_of_ble_eq_true rfl) ?_
      refine ev_ifb_eq (tgt := 43) dX4_setOperators_16 (by decide) (fun h16 => ?_) (fun h16 => ?_)
      · refine ev_iinc (lv' := [(4, .int (nI (k + 1))), (0, .ref 0), (1, .int S), (2, .int (nI ch)), (3, .int N)]) dX4_setOperators_43 4 rfl (nI_inc k) (by decide) rfl ?_
        refine ev_goto (tgt := 3) dX4_setOperators_46 (by decide) ?_
        refine ev_lv (lv' := [(0, .ref 0), (1, .int S), (2, .int (nI ch)), (3, .int N), (4, .int (nI (k + 1)))]) [1, 2, 3, 4, 0] rfl ?_
        have ih9 : av_Ev l RX4 cX4_setOperators 6 none av_E0 1 3 [(0, .ref 0), (1, .int S), (2, .int (nI ch)), (3, .int N), (4, .int (nI (k + 1)))] [] (av_set σ 4 (fo (k + 1) (fun s O => soF (σ 3) S ch N s O) (σ 4))) Q := ihk
        rw [show av_set σ 4 (fo (k + 1) (fun s O => soF (σ 3) S ch N s O) (σ 4)) = av_set σ 4 (fo k (fun s O => soF (σ 3) S ch N s O) (σ 4)) from (by rw [fo_s]; simp [soF, h7, h16])] at ih9
        exact ih9
      · refine ev_iload dX4_setOperators_19 4 rfl ?_
        refine ev_iload_n dX4_setOperators_21 rfl 2 rfl ?_
        refine ev_callSi (x := nI (k * 4 + ch)) dX4_setOperators_22 (Or.inl M_X4_111) Y_X4_channelCell [.int (nI k), .int (nI ch)] (c_X4_channelCell k ch ) (by decide) (Nat.le_of_ble_eq_true rfl) rfl rfl (Nat.le_of_ble_eq_true rfl) ?_
        refine ev_istore (lv' := [(5, .int (nI (k * 4 + ch))), (0, .ref 0), (1, .int S), (2, .int (nI ch)), (3, .int N), (4, .int (nI k))]) dX4_setOperators_25 (by decide) rfl ?_
        refine ev_aload_n dX4_setOperators_27 rfl 1 rfl ?_
        refine ev_getR dX4_setOperators_28 C_X4 L_X4_34 (by decide) (by decide) sh_0 rfl ?_
        refine ev_iload dX4_setOperators_31 0 rfl ?_
        refine ev_aload_n dX4_setOperators_33 rfl 1 rfl ?_
        refine ev_getR dX4_setOperators_34 C_X4 L_X4_31 (by decide) (by decide) sh_0 rfl ?_
        refine ev_iload dX4_setOperators_37 0 rfl ?_
        refine ev_iald (e := k * 4 + ch) (v := σ 3 (k * 4 + ch)) dX4_setOperators_39 (by decide) sh_3 (by omega) (by decide) (by first | rfl | (simp only [av_set, cpS]; (repeat' split) <;> first | rfl | (exfalso; omega))) ?_
        refine ev_iload_n dX4_setOperators_40 rfl 4 rfl ?_
        refine ev_iand dX4_setOperators_41 ?_
        refine ev_iast (e := k * 4 + ch) dX4_setOperators_42 (by decide) sh_4 (by omega) (by decide) ?_
        refine ev_st (σ' := av_set σ 4 (upd (fo k (fun s O => soF (σ 3) S ch N s O) (σ 4)) (k * 4 + ch) ((σ 3 (k * 4 + ch)) &&& N))) (by first | rfl | exact av_set_set _ _ _ _ | (funext a; unfold av_set; (repeat' split) <;> first | rfl | (exfalso; omega)) | (funext a; simp only [av_set, cpS]; (repeat' split) <;> first | rfl | (exfalso; omega))) ?_
        refine ev_iinc (lv' := [(4, .int (nI (k + 1))), (5, .int (nI (k * 4 + ch))), (0, .ref 0), (1, .int S), (2, .int (nI ch)), (3, .int N)]) dX4_setOperators_43 5 rfl (nI_inc k) (by decide) rfl ?_
        refine ev_goto (tgt := 3) dX4_setOperators_46 (by decide) ?_
        refine ev_lv (lv' := [(0, .ref 0), (1, .int S), (2, .int (nI ch)), (3, .int N), (4, .int (nI (k + 1)))]) [2, 3, 4, 5, 0] rfl ?_
        have ih9 : av_Ev l RX4 cX4_setOperators 6 none av_E0 1 3 [(0, .ref 0), (1, .int S), (2, .int (nI ch)), (3, .int N), (4, .int (nI (k + 1)))] [] (av_set σ 4 (fo (k + 1) (fun s O => soF (σ 3) S ch N s O) (σ 4))) Q := ihk
        rw [show av_set σ 4 (fo (k + 1) (fun s O => soF (σ 3) S ch N s O) (σ 4)) = av_set σ 4 (upd (fo k (fun s O => soF (σ 3) S ch N s O) (σ 4)) (k * 4 + ch) ((σ 3 (k * 4 + ch)) &&& N)) from (by rw [fo_s]; simp [soF, h7, h16])] at ih9
        exact ih9

set_option maxRecDepth 100000 in
set_option maxHeartbeats 1000000 in
theorem c_X4_hasChannel {l : Launch} {σ : av_S} (s : Nat) (ch : Nat) (hs : s < 6) (hch : ch < 4) : av_M l RX4 cX4_hasChannel 3 (some .boolean) 3 [.ref 0, .int (nI s), .int (nI ch)] σ (some (.int (b2i (hc (σ 1) (σ 3) s ch)))) σ := by
  intro Q hQ
  show av_Ev l RX4 cX4_hasChannel 3 (some .boolean) av_E0 3 0 [(0, .ref 0), (1, .int (nI s)), (2, .int (nI ch))] [] σ Q
  refine ev_aload_n dX4_hasChannel_0 rfl 0 rfl ?_
  refine ev_aload_n dX4_hasChannel_1 rfl 0 rfl ?_
  refine ev_iload_n dX4_hasChannel_2 rfl 1 rfl ?_
  refine ev_callVi (x := net (σ 1) s) dX4_hasChannel_3 M_X4_71 Y_X4_networkOf [.int (nI s)] (c_X4_networkOf s (by omega)) (by decide) (Nat.le_of_ble_eq_true rfl) (by decide) sh_0 rfl rfl rfl (Nat.le_of_ble_eq_true rfl) ?_
  refine ev_iload_n dX4_hasChannel_6 rfl 2 rfl ?_
  refine ev_callVi (x := un (σ 3) (net (σ 1) s) ch) dX4_hasChannel_7 M_X4_118 Y_X4_membersIn [.int (net (σ 1) s), .int (nI ch)] (c_X4_membersIn (net (σ 1) s) ch (by omega)) (by decide) (Nat.le_of_ble_eq_true rfl) (by decide) sh_0 rfl rfl rfl (Nat.le_of_ble_eq_true rfl) ?_
  refine ev_if_eq (tgt := 17) dX4_hasChannel_10 (by decide) (fun h10 => ?_) (fun h10 => ?_)
  · refine ev_iconst dX4_hasChannel_17 (v := nI 0) (by decide) ?_
    exact ev_ireturn dX4_hasChannel_18 rfl (by decide) (leafI hQ (by simp [b2i, hc, h10]) rfl)
  · refine ev_iconst dX4_hasChannel_13 (v := nI 1) (by decide) ?_
    refine ev_goto (tgt := 18) dX4_hasChannel_14 (by decide) ?_
    exact ev_ireturn dX4_hasChannel_18 rfl (by decide) (leafI hQ (by simp [b2i, hc, h10]) rfl)

set_option maxRecDepth 100000 in
set_option maxHeartbeats 1000000 in
theorem c_X4_timeOfChannel {l : Launch} {σ : av_S} (s : Nat) (ch : Nat) (hs : s < 6) (hc : ch < 4) : av_M l RX4 cX4_timeOfChannel 3 (some .int) 1 [.ref 0, .int (nI s), .int (nI ch)] σ (some (.int (σ 5 (s * 4 + ch)))) σ := by
  intro Q hQ
  show av_Ev l RX4 cX4_timeOfChannel 3 (some .int) av_E0 1 0 [(0, .ref 0), (1, .int (nI s)), (2, .int (nI ch))] [] σ Q
  refine ev_aload_n dX4_timeOfChannel_0 rfl 0 rfl ?_
  refine ev_getR dX4_timeOfChannel_1 C_X4 L_X4_37 (by decide) (by decide) sh_0 rfl ?_
  refine ev_iload_n dX4_timeOfChannel_4 rfl 1 rfl ?_
  refine ev_iload_n dX4_timeOfChannel_5 rfl 2 rfl ?_
  refine ev_callSi (x := nI (s * 4 + ch)) dX4_timeOfChannel_6 (Or.inl M_X4_111) Y_X4_channelCell [.int (nI s), .int (nI ch)] (c_X4_channelCell s ch ) (by decide) (Nat.le_of_ble_eq_true rfl) rfl rfl (Nat.le_of_ble_eq_true rfl) ?_
  refine ev_iald (e := s * 4 + ch) (v := σ 5 (s * 4 + ch)) dX4_timeOfChannel_9 (by decide) sh_5 (by omega) (by decide) rfl ?_
  exact ev_ireturn dX4_timeOfChannel_10 rfl rfl (leafI hQ rfl rfl)

set_option maxRecDepth 100000 in
set_option maxHeartbeats 1000000 in
theorem c_X4_modesOfChannel {l : Launch} {σ : av_S} (s : Nat) (ch : Nat) (hs : s < 6) (hc : ch < 4) : av_M l RX4 cX4_modesOfChannel 3 (some .int) 1 [.ref 0, .int (nI s), .int (nI ch)] σ (some (.int (σ 6 (s * 4 + ch)))) σ := by
  intro Q hQ
  show av_Ev l RX4 cX4_modesOfChannel 3 (some .int) av_E0 1 0 [(0, .ref 0), (1, .int (nI s)), (2, .int (nI ch))] [] σ Q
  refine ev_aload_n dX4_modesOfChannel_0 rfl 0 rfl ?_
  refine ev_getR dX4_modesOfChannel_1 C_X4 L_X4_40 (by decide) (by decide) sh_0 rfl ?_
  refine ev_iload_n dX4_modesOfChannel_4 rfl 1 rfl ?_
  refine ev_iload_n dX4_modesOfChannel_5 rfl 2 rfl ?_
  refine ev_callSi (x := nI (s * 4 + ch)) dX4_modesOfChannel_6 (Or.inl M_X4_111) Y_X4_channelCell [.int (nI s), .int (nI ch)] (c_X4_channelCell s ch ) (by decide) (Nat.le_of_ble_eq_true rfl) rfl rfl (Nat.le_of_ble_eq_true rfl) ?_
  refine ev_iald (e := s * 4 + ch) (v := σ 6 (s * 4 + ch)) dX4_modesOfChannel_9 (by decide) sh_6 (by omega) (by decide) rfl ?_
  exact ev_ireturn dX4_modesOfChannel_10 rfl rfl (leafI hQ rfl rfl)

set_option maxRecDepth 100000 in
set_option maxHeartbeats 1000000 in
theorem c_X4_describeChannel {l : Launch} {σ : av_S} (S : Int32) (ch : Nat) (v : Int32) (w : Int32) (hc : ch < 4) : av_M l RX4 cX4_describeChannel 6 none 1 [.ref 0, .int S, .int (nI ch), .int v, .int w] σ none (av_set (av_set σ 5 (ds (σ 5) S ch v)) 6 (ds (σ 6) S ch w)) := by
  intro Q hQ
  show av_Ev l RX4 cX4_describeChannel 6 none av_E0 1 0 [(0, .ref 0), (1, .int S), (2, .int (nI ch)), (3, .int v), (4, .int w)] [] σ Q
  refine ev_iconst dX4_describeChannel_0 (v := nI 0) (by decide) ?_
  refine ev_istore (lv' := [(5, .int (nI 0)), (0, .ref 0), (1, .int S), (2, .int (nI ch)), (3, .int v), (4, .int w)]) dX4_describeChannel_1 (by decide) rfl ?_
  refine ev_lv (lv' := [(0, .ref 0), (1, .int S), (2, .int (nI ch)), (3, .int v), (4, .int w), (5, .int (nI 0))]) [1, 2, 3, 4, 5, 0] rfl ?_
  refine ev_st (σ' := av_set (av_set σ 5 (fo 0 (fun s C => dsF S ch v s C) (σ 5))) 6 (fo 0 (fun s C => dsF S ch w s C) (σ 6))) (by simp only [fo_0]; first | rfl | (funext a; unfold av_set; (repeat' split) <;> first | rfl | (subst_vars; rfl) | (exfalso; omega))) ?_
  refine loop_up (fun k => av_Ev l RX4 cX4_describeChannel 6 none av_E0 1 3 [(0, .ref 0), (1, .int S), (2, .int (nI ch)), (3, .int v), (4, .int w), (5, .int (nI k))] [] (av_set (av_set σ 5 (fo k (fun s C => dsF S ch v s C) (σ 5))) 6 (fo k (fun s C => dsF S ch w s C) (σ 6))) Q) 6 ?_ ?_
  · show av_Ev l RX4 cX4_describeChannel 6 none av_E0 1 3 [(0, .ref 0), (1, .int S), (2, .int (nI ch)), (3, .int v), (4, .int w), (5, .int (nI 6))] [] (av_set (av_set σ 5 (fo 6 (fun s C => dsF S ch v s C) (σ 5))) 6 (fo 6 (fun s C => dsF S ch w s C) (σ 6))) Q
    refine ev_iload dX4_describeChannel_3 5 rfl ?_
    refine ev_bipush dX4_describeChannel_5 (v := nI 6) (by decide) ?_
    refine ev_ncmp_ge (tgt := 50) dX4_describeChannel_7 (by decide) (by omega) (by omega) (fun h7 => ?_) (fun h7 => ?_)
    · exact ev_return dX4_describeChannel_50 rfl (leafV hQ rfl)
    · exact absurd h7 (by omega)
  · intro k hk ihk
    show av_Ev l RX4 cX4_describeChannel 6 none av_E0 1 3 [(0, .ref 0), (1, .int S), (2, .int (nI ch)), (3, .int v), (4, .int w), (5, .int (nI k))] [] (av_set (av_set σ 5 (fo k (fun s C => dsF S ch v s C) (σ 5))) 6 (fo k (fun s C => dsF S ch w s C) (σ 6))) Q
    refine ev_iload dX4_describeChannel_3 5 rfl ?_
    refine ev_bipush dX4_describeChannel_5 (v := nI 6) (by decide) ?_
    refine ev_ncmp_ge (tgt := 50) dX4_describeChannel_7 (by decide) (by omega) (by omega) (fun h7 => ?_) (fun h7 => ?_)
    · exact absurd h7 (by omega)
    · refine ev_iload_n dX4_describeChannel_10 rfl 1 rfl ?_
      refine ev_iload dX4_describeChannel_11 5 rfl ?_
      refine ev_callSi (x := b2i (tb S k)) dX4_describeChannel_13 (Or.inr M_X4_59) Y_X5_hasBit [.int S, .int (nI k)] (c_X5_hasBit S k (by omega)) (by decide) (Nat.le_of_ble_eq_true rfl) rfl rfl (Nat.le_of_ble_eq_true rfl) ?_
      refine ev_ifb_eq (tgt := 44) dX4_describeChannel_16 (by decide) (fun h16 => ?_) (fun h16 => ?_)
      · refine ev_iinc (lv' := [(5, .int (nI (k + 1))), (0, .ref 0), (1, .int S), (2, .int (nI ch)), (3, .int v), (4, .int w)]) dX4_describeChannel_44 5 rfl (nI_inc k) (by decide) rfl ?_
        refine ev_goto (tgt := 3) dX4_describeChannel_47 (by decide) ?_
        refine ev_lv (lv' := [(0, .ref 0), (1, .int S), (2, .int (nI ch)), (3, .int v), (4, .int w), (5, .int (nI (k + 1)))]) [1, 2, 3, 4, 5, 0] rfl ?_
        have ih9 : av_Ev l RX4 cX4_describeChannel 6 none av_E0 1 3 [(0, .ref 0), (1, .int S), (2, .int (nI ch)), (3, .int v), (4, .int w), (5, .int (nI (k + 1)))] [] (av_set (av_set σ 5 (fo (k + 1) (fun s C => dsF S ch v s C) (σ 5))) 6 (fo (k + 1) (fun s C => dsF S ch w s C) (σ 6))) Q := ihk
        rw [show av_set (av_set σ 5 (fo (k + 1) (fun s C => dsF S ch v s C) (σ 5))) 6 (fo (k + 1) (fun s C => dsF S ch w s C) (σ 6)) = av_set (av_set σ 5 (fo k (fun s C => dsF S ch v s C) (σ 5))) 6 (fo k (fun s C => dsF S ch w s C) (σ 6)) from (by rw [fo_s, fo_s]; simp [dsF, h7, h16])] at ih9
        exact ih9
      · refine ev_aload_n dX4_describeChannel_19 rfl 0 rfl ?_
        refine ev_getR dX4_describeChannel_20 C_X4 L_X4_37 (by decide) (by decide) sh_0 rfl ?_
        refine ev_iload dX4_describeChannel_23 5 rfl ?_
        refine ev_iload_n dX4_describeChannel_25 rfl 2 rfl ?_
        refine ev_callSi (x := nI (k * 4 + ch)) dX4_describeChannel_26 (Or.inl M_X4_111) Y_X4_channelCell [.int (nI k), .int (nI ch)] (c_X4_channelCell k ch ) (by decide) (Nat.le_of_ble_eq_true rfl) rfl rfl (Nat.le_of_ble_eq_true rfl) ?_
        refine ev_iload_n dX4_describeChannel_29 rfl 3 rfl ?_
        refine ev_iast (e := k * 4 + ch) dX4_describeChannel_30 (by decide) sh_5 (by omega) (by decide) ?_
        refine ev_st (σ' := av_set (av_set σ 5 (upd (fo k (fun s C => dsF S ch v s C) (σ 5)) (k * 4 + ch) v)) 6 (fo k (fun s C => dsF S ch w s C) (σ 6))) (by first | rfl | exact av_set_set _ _ _ _ | (funext a; unfold av_set; (repeat' split) <;> first | rfl | (exfalso; omega)) | (funext a; simp only [av_set, cpS]; (repeat' split) <;> first | rfl | (exfalso; omega))) ?_
        refine ev_aload_n dX4_describeChannel_31 rfl 0 rfl ?_
        refine ev_getR dX4_describeChannel_32 C_X4 L_X4_40 (by decide) (by decide) sh_0 rfl ?_
        refine ev_iload dX4_describeChannel_35 5 rfl ?_
        refine ev_iload_n dX4_describeChannel_37 rfl 2 rfl ?_
        refine ev_callSi (x := nI (k * 4 + ch)) dX4_describeChannel_38 (Or.inl M_X4_111) Y_X4_channelCell [.int (nI k), .int (nI ch)] (c_X4_channelCell k ch ) (by decide) (Nat.le_of_ble_eq_true rfl) rfl rfl (Nat.le_of_ble_eq_true rfl) ?_
        refine ev_iload dX4_describeChannel_41 4 rfl ?_
        refine ev_iast (e := k * 4 + ch) dX4_describeChannel_43 (by decide) sh_6 (by omega) (by decide) ?_
        refine ev_st (σ' := av_set (av_set σ 5 (upd (fo k (fun s C => dsF S ch v s C) (σ 5)) (k * 4 + ch) v)) 6 (upd (fo k (fun s C => dsF S ch w s C) (σ 6)) (k * 4 + ch) w)) (by first | rfl | exact av_set_set _ _ _ _ | (funext a; unfold av_set; (repeat' split) <;> first | rfl | (exfalso; omega)) | (funext a; simp only [av_set, cpS]; (repeat' split) <;> first | rfl | (exfalso; omega))) ?_
        refine ev_iinc (lv' := [(5, .int (nI (k + 1))), (0, .ref 0), (1, .int S), (2, .int (nI ch)), (3, .int v), (4, .int w)]) dX4_describeChannel_44 5 rfl (nI_inc k) (by decide) rfl ?_
        refine ev_goto (tgt := 3) dX4_describeChannel_47 (by decide) ?_
        refine ev_lv (lv' := [(0, .ref 0), (1, .int S), (2, .int (nI ch)), (3, .int v), (4, .int w), (5, .int (nI (k + 1)))]) [1, 2, 3, 4, 5, 0] rfl ?_
        have ih9 : av_Ev l RX4 cX4_describeChannel 6 none av_E0 1 3 [(0, .ref 0), (1, .int S), (2, .int (nI ch)), (3, .int v), (4, .int w), (5, .int (nI (k + 1)))] [] (av_set (av_set σ 5 (fo (k + 1) (fun s C => dsF S ch v s C) (σ 5))) 6 (fo (k + 1) (fun s C => dsF S ch w s C) (σ 6))) Q := ihk
        rw [show av_set (av_set σ 5 (fo (k + 1) (fun s C => dsF S ch v s C) (σ 5))) 6 (fo (k + 1) (fun s C => dsF S ch w s C) (σ 6)) = av_set (av_set σ 5 (upd (fo k (fun s C => dsF S ch v s C) (σ 5)) (k * 4 + ch) v)) 6 (upd (fo k (fun s C => dsF S ch w s C) (σ 6)) (k * 4 + ch) w) from (by rw [fo_s, fo_s]; simp [dsF, h7, h16])] at ih9
        exact ih9

set_option maxRecDepth 100000 in
set_option maxHeartbeats 1000000 in
theorem c_J6_bitCount_0f7a4 {l : Launch} {σ : av_S} (x : Int32)  : av_M l RJ6 cJ6_bitCount_0f7a4 1 (some .int) 0 [.int x] σ (some (.int (jbc x))) σ := by
  intro Q hQ
  show av_Ev l RJ6 cJ6_bitCount_0f7a4 1 (some .int) av_E0 0 0 [(0, .int x)] [] σ Q
  refine ev_iload_n dJ6_bitCount_0f7a4_0 rfl 0 rfl ?_
  refine ev_iload_n dJ6_bitCount_0f7a4_1 rfl 0 rfl ?_
  refine ev_iconst dJ6_bitCount_0f7a4_2 (v := nI 1) (by decide) ?_
  refine ev_iushr dJ6_bitCount_0f7a4_3 ?_
  refine ev_ldcw (v := 1431655765) dJ6_bitCount_0f7a4_4 K_J6_265 ?_
  refine ev_iand dJ6_bitCount_0f7a4_7 ?_
  refine ev_isub dJ6_bitCount_0f7a4_8 ?_
  refine ev_istore_n (lv' := [(0, .int (x - (((x.toUInt32 >>> ((nI 1).toUInt32 &&& Int32.toUInt32 31)).toInt32) &&& 1431655765)))]) dJ6_bitCount_0f7a4_9 rfl (by decide) rfl ?_
  refine ev_iload_n dJ6_bitCount_0f7a4_10 rfl 0 rfl ?_
  refine ev_ldcw (v := 858993459) dJ6_bitCount_0f7a4_11 K_J6_266 ?_
  refine ev_iand dJ6_bitCount_0f7a4_14 ?_
  refine ev_iload_n dJ6_bitCount_0f7a4_15 rfl 0 rfl ?_
  refine ev_iconst dJ6_bitCount_0f7a4_16 (v := nI 2) (by decide) ?_
  refine ev_iushr dJ6_bitCount_0f7a4_17 ?_
  refine ev_ldcw (v := 858993459) dJ6_bitCount_0f7a4_18 K_J6_266 ?_
  refine ev_iand dJ6_bitCount_0f7a4_21 ?_
  refine ev_iadd dJ6_bitCount_0f7a4_22 ?_
  refine ev_istore_n (lv' := [(0, .int (((x - (((x.toUInt32 >>> ((nI 1).toUInt32 &&& Int32.toUInt32 31)).toInt32) &&& 1431655765)) &&& 858993459) + ((((x - (((x.toUInt32 >>> ((nI 1).toUInt32 &&& Int32.toUInt32 31)).toInt32) &&& 1431655765)).toUInt32 >>> ((nI 2).toUInt32 &&& Int32.toUInt32 31)).toInt32) &&& 858993459)))]) dJ6_bitCount_0f7a4_23 rfl (by decide) rfl ?_
  refine ev_iload_n dJ6_bitCount_0f7a4_24 rfl 0 rfl ?_
  refine ev_iload_n dJ6_bitCount_0f7a4_25 rfl 0 rfl ?_
  refine ev_iconst dJ6_bitCount_0f7a4_26 (v := nI 4) (by decide) ?_
  refine ev_iushr dJ6_bitCount_0f7a4_27 ?_
  refine ev_iadd dJ6_bitCount_0f7a4_28 ?_
  refine ev_ldcw (v := 252645135) dJ6_bitCount_0f7a4_29 K_J6_267 ?_
  refine ev_iand dJ6_bitCount_0f7a4_32 ?_
  refine ev_istore_n (lv' := [(0, .int (((((x - (((x.toUInt32 >>> ((nI 1).toUInt32 &&& Int32.toUInt32 31)).toInt32) &&& 1431655765)) &&& 858993459) + ((((x - (((x.toUInt32 >>> ((nI 1).toUInt32 &&& Int32.toUInt32 31)).toInt32) &&& 1431655765)).toUInt32 >>> ((nI 2).toUInt32 &&& Int32.toUInt32 31)).toInt32) &&& 858993459)) + (((((x - (((x.toUInt32 >>> ((nI 1).toUInt32 &&& Int32.toUInt32 31)).toInt32) &&& 1431655765)) &&& 858993459) + ((((x - (((x.toUInt32 >>> ((nI 1).toUInt32 &&& Int32.toUInt32 31)).toInt32) &&& 1431655765)).toUInt32 >>> ((nI 2).toUInt32 &&& Int32.toUInt32 31)).toInt32) &&& 858993459)).toUInt32 >>> ((nI 4).toUInt32 &&& Int32.toUInt32 31)).toInt32)) &&& 252645135))]) dJ6_bitCount_0f7a4_33 rfl (by decide) rfl ?_
  refine ev_iload_n dJ6_bitCount_0f7a4_34 rfl 0 rfl ?_
  refine ev_iload_n dJ6_bitCount_0f7a4_35 rfl 0 rfl ?_
  refine ev_bipush dJ6_bitCount_0f7a4_36 (v := nI 8) (by decide) ?_
  refine ev_iushr dJ6_bitCount_0f7a4_38 ?_
  refine ev_iadd dJ6_bitCount_0f7a4_39 ?_
  refine ev_istore_n (lv' := [(0, .int ((((((x - (((x.toUInt32 >>> ((nI 1).toUInt32 &&& Int32.toUInt32 31)).toInt32) &&& 1431655765)) &&& 858993459) + ((((x - (((x.toUInt32 >>> ((nI 1).toUInt32 &&& Int32.toUInt32 31)).toInt32) &&& 1431655765)).toUInt32 >>> ((nI 2).toUInt32 &&& Int32.toUInt32 31)).toInt32) &&& 858993459)) + (((((x - (((x.toUInt32 >>> ((nI 1).toUInt32 &&& Int32.toUInt32 31)).toInt32) &&& 1431655765)) &&& 858993459) + ((((x - (((x.toUInt32 >>> ((nI 1).toUInt32 &&& Int32.toUInt32 31)).toInt32) &&& 1431655765)).toUInt32 >>> ((nI 2).toUInt32 &&& Int32.toUInt32 31)).toInt32) &&& 858993459)).toUInt32 >>> ((nI 4).toUInt32 &&& Int32.toUInt32 31)).toInt32)) &&& 252645135) + (((((((x - (((x.toUInt32 >>> ((nI 1).toUInt32 &&& Int32.toUInt32 31)).toInt32) &&& 1431655765)) &&& 858993459) + ((((x - (((x.toUInt32 >>> ((nI 1).toUInt32 &&& Int32.toUInt32 31)).toInt32) &&& 1431655765)).toUInt32 >>> ((nI 2).toUInt32 &&& Int32.toUInt32 31)).toInt32) &&& 858993459)) + (((((x - (((x.toUInt32 >>> ((nI 1).toUInt32 &&& Int32.toUInt32 31)).toInt32) &&& 1431655765)) &&& 858993459) + ((((x - (((x.toUInt32 >>> ((nI 1).toUInt32 &&& Int32.toUInt32 31)).toInt32) &&& 1431655765)).toUInt32 >>> ((nI 2).toUInt32 &&& Int32.toUInt32 31)).toInt32) &&& 858993459)).toUInt32 >>> ((nI 4).toUInt32 &&& Int32.toUInt32 31)).toInt32)) &&& 252645135).toUInt32 >>> ((nI 8).toUInt32 &&& Int32.toUInt32 31)).toInt32)))]) dJ6_bitCount_0f7a4_40 rfl (by decide) rfl ?_
  refine ev_iload_n dJ6_bitCount_0f7a4_41 rfl 0 rfl ?_
  refine ev_iload_n dJ6_bitCount_0f7a4_42 rfl 0 rfl ?_
  refine ev_bipush dJ6_bitCount_0f7a4_43 (v := nI 16) (by decide) ?_
  refine ev_iushr dJ6_bitCount_0f7a4_45 ?_
  refine ev_iadd dJ6_bitCount_0f7a4_46 ?_
  refine ev_istore_n (lv' := [(0, .int (((((((x - (((x.toUInt32 >>> ((nI 1).toUInt32 &&& Int32.toUInt32 31)).toInt32) &&& 1431655765)) &&& 858993459) + ((((x - (((x.toUInt32 >>> ((nI 1).toUInt32 &&& Int32.toUInt32 31)).toInt32) &&& 1431655765)).toUInt32 >>> ((nI 2).toUInt32 &&& Int32.toUInt32 31)).toInt32) &&& 858993459)) + (((((x - (((x.toUInt32 >>> ((nI 1).toUInt32 &&& Int32.toUInt32 31)).toInt32) &&& 1431655765)) &&& 858993459) + ((((x - (((x.toUInt32 >>> ((nI 1).toUInt32 &&& Int32.toUInt32 31)).toInt32) &&& 1431655765)).toUInt32 >>> ((nI 2).toUInt32 &&& Int32.toUInt32 31)).toInt32) &&& 858993459)).toUInt32 >>> ((nI 4).toUInt32 &&& Int32.toUInt32 31)).toInt32)) &&& 252645135) + (((((((x - (((x.toUInt32 >>> ((nI 1).toUInt32 &&& Int32.toUInt32 31)).toInt32) &&& 1431655765)) &&& 858993459) + ((((x - (((x.toUInt32 >>> ((nI 1).toUInt32 &&& Int32.toUInt32 31)).toInt32) &&& 1431655765)).toUInt32 >>> ((nI 2).toUInt32 &&& Int32.toUInt32 31)).toInt32) &&& 858993459)) + (((((x - (((x.toUInt32 >>> ((nI 1).toUInt32 &&& Int32.toUInt32 31)).toInt32) &&& 1431655765)) &&& 858993459) + ((((x - (((x.toUInt32 >>> ((nI 1).toUInt32 &&& Int32.toUInt32 31)).toInt32) &&& 1431655765)).toUInt32 >>> ((nI 2).toUInt32 &&& Int32.toUInt32 31)).toInt32) &&& 858993459)).toUInt32 >>> ((nI 4).toUInt32 &&& Int32.toUInt32 31)).toInt32)) &&& 252645135).toUInt32 >>> ((nI 8).toUInt32 &&& Int32.toUInt32 31)).toInt32)) + ((((((((x - (((x.toUInt32 >>> ((nI 1).toUInt32 &&& Int32.toUInt32 31)).toInt32) &&& 1431655765)) &&& 858993459) + ((((x - (((x.toUInt32 >>> ((nI 1).toUInt32 &&& Int32.toUInt32 31)).toInt32) &&& 1431655765)).toUInt32 >>> ((nI 2).toUInt32 &&& Int32.toUInt32 31)).toInt32) &&& 858993459)) + (((((x - (((x.toUInt32 >>> ((nI 1).toUInt32 &&& Int32.toUInt32 31)).toInt32) &&& 1431655765)) &&& 858993459) + ((((x - (((x.toUInt32 >>> ((nI 1).toUInt32 &&& Int32.toUInt32 31)).toInt32) &&& 1431655765)).toUInt32 >>> ((nI 2).toUInt32 &&& Int32.toUInt32 31)).toInt32) &&& 858993459)).toUInt32 >>> ((nI 4).toUInt32 &&& Int32.toUInt32 31)).toInt32)) &&& 252645135) + (((((((x - (((x.toUInt32 >>> ((nI 1).toUInt32 &&& Int32.toUInt32 31)).toInt32) &&& 1431655765)) &&& 858993459) + ((((x - (((x.toUInt32 >>> ((nI 1).toUInt32 &&& Int32.toUInt32 31)).toInt32) &&& 1431655765)).toUInt32 >>> ((nI 2).toUInt32 &&& Int32.toUInt32 31)).toInt32) &&& 858993459)) + (((((x - (((x.toUInt32 >>> ((nI 1).toUInt32 &&& Int32.toUInt32 31)).toInt32) &&& 1431655765)) &&& 858993459) + ((((x - (((x.toUInt32 >>> ((nI 1).toUInt32 &&& Int32.toUInt32 31)).toInt32) &&& 1431655765)).toUInt32 >>> ((nI 2).toUInt32 &&& Int32.toUInt32 31)).toInt32) &&& 858993459)).toUInt32 >>> ((nI 4).toUInt32 &&& Int32.toUInt32 31)).toInt32)) &&& 252645135).toUInt32 >>> ((nI 8).toUInt32 &&& Int32.toUInt32 31)).toInt32)).toUInt32 >>> ((nI 16).toUInt32 &&& Int32.toUInt32 31)).toInt32)))]) dJ6_bitCount_0f7a4_47 rfl (by decide) rfl ?_
  refine ev_iload_n dJ6_bitCount_0f7a4_48 rfl 0 rfl ?_
  refine ev_bipush dJ6_bitCount_0f7a4_49 (v := nI 63) (by decide) ?_
  refine ev_iand dJ6_bitCount_0f7a4_51 ?_
  exact ev_ireturn dJ6_bitCount_0f7a4_52 rfl rfl (leafI hQ (by first | rfl | (simp []; done)) rfl)

set_option maxRecDepth 100000 in
set_option maxHeartbeats 1000000 in
theorem c_J7_fill1 {l : Launch} {σ : av_S} (v : Int32)  : av_M l RJ7 cJ7_fill_53178 4 none 0 [.ref 1, .int v] σ none (av_set σ 1 (fl (σ 1) 6 v)) := by
  intro Q hQ
  show av_Ev l RJ7 cJ7_fill_53178 4 none av_E0 0 0 [(0, .ref 1), (1, .int v)] [] σ Q
  refine ev_iconst dJ7_fill_53178_0 (v := nI 0) (by decide) ?_
  refine ev_istore_n (lv' := [(2, .int (nI 0)), (0, .ref 1), (1, .int v)]) dJ7_fill_53178_1 rfl (by decide) rfl ?_
  refine ev_aload_n dJ7_fill_53178_2 rfl 1 rfl ?_
  refine ev_alen (v := nI 6) dJ7_fill_53178_3 (by decide) sh_1 (by decide) rfl ?_
  refine ev_istore_n (lv' := [(3, .int (nI 6)), (2, .int (nI 0)), (0, .ref 1), (1, .int v)]) dJ7_fill_53178_4 rfl (by decide) rfl ?_
  refine ev_lv (lv' := [(0, .ref 1), (1, .int v), (2, .int (nI 0)), (3, .int (nI 6))]) [2, 3, 1, 0] rfl ?_
  refine ev_st (σ' := av_set σ 1 (fo 0 (fun k g => upd g k v) (σ 1))) (by simp only [fo_0]; first | rfl | (funext a; unfold av_set; (repeat' split) <;> first | rfl | (subst_vars; rfl) | (exfalso; omega))) ?_
  refine loop_up (fun k => av_Ev l RJ7 cJ7_fill_53178 4 none av_E0 0 5 [(0, .ref 1), (1, .int v), (2, .int (nI k)), (3, .int (nI 6))] [] (av_set σ 1 (fo k (fun k g => upd g k v) (σ 1))) Q) 6 ?_ ?_
  · show av_Ev l RJ7 cJ7_fill_53178 4 none av_E0 0 5 [(0, .ref 1), (1, .int v), (2, .int (nI 6)), (3, .int (nI 6))] [] (av_set σ 1 (fo 6 (fun k g => upd g k v) (σ 1))) Q
    refine ev_iload_n dJ7_fill_53178_5 rfl 2 rfl ?_
    refine ev_iload_n dJ7_fill_53178_6 rfl 3 rfl ?_
    refine ev_ncmp_ge (tgt := 20) dJ7_fill_53178_7 (by decide) (by omega) (by omega) (fun h7 => ?_) (fun h7 => ?_)
    · exact ev_return dJ7_fill_53178_20 rfl (leafV hQ rfl)
    · exact absurd h7 (by omega)
  · intro k hk ihk
    show av_Ev l RJ7 cJ7_fill_53178 4 none av_E0 0 5 [(0, .ref 1), (1, .int v), (2, .int (nI k)), (3, .int (nI 6))] [] (av_set σ 1 (fo k (fun k g => upd g k v) (σ 1))) Q
    refine ev_iload_n dJ7_fill_53178_5 rfl 2 rfl ?_
    refine ev_iload_n dJ7_fill_53178_6 rfl 3 rfl ?_
    refine ev_ncmp_ge (tgt := 20) dJ7_fill_53178_7 (by decide) (by omega) (by omega) (fun h7 => ?_) (fun h7 => ?_)
    · exact absurd h7 (by omega)
    · refine ev_aload_n dJ7_fill_53178_10 rfl 0 rfl ?_
      refine ev_iload_n dJ7_fill_53178_11 rfl 2 rfl ?_
      refine ev_iload_n dJ7_fill_53178_12 rfl 1 rfl ?_
      refine ev_iast (e := k) dJ7_fill_53178_13 (by decide) sh_1 (by omega) (by decide) ?_
      refine ev_st (σ' := av_set σ 1 (upd (fo k (fun k g => upd g k v) (σ 1)) k v)) (by first | rfl | exact av_set_set _ _ _ _ | (funext a; unfold av_set; (repeat' split) <;> first | rfl | (exfalso; omega)) | (funext a; simp only [av_set, cpS]; (repeat' split) <;> first | rfl | (exfalso; omega))) ?_
      refine ev_iinc (lv' := [(2, .int (nI (k + 1))), (0, .ref 1), (1, .int v), (3, .int (nI 6))]) dJ7_fill_53178_14 2 rfl (nI_inc k) (by decide) rfl ?_
      refine ev_goto (tgt := 5) dJ7_fill_53178_17 (by decide) ?_
      refine ev_lv (lv' := [(0, .ref 1), (1, .int v), (2, .int (nI (k + 1))), (3, .int (nI 6))]) [1, 2, 0, 3] rfl ?_
      have ih9 : av_Ev l RJ7 cJ7_fill_53178 4 none av_E0 0 5 [(0, .ref 1), (1, .int v), (2, .int (nI (k + 1))), (3, .int (nI 6))] [] (av_set σ 1 (fo (k + 1) (fun k g => upd g k v) (σ 1))) Q := ihk
      rw [show av_set σ 1 (fo (k + 1) (fun k g => upd g k v) (σ 1)) = av_set σ 1 (upd (fo k (fun k g => upd g k v) (σ 1)) k v) from rfl] at ih9
      exact ih9

set_option maxRecDepth 100000 in
set_option maxHeartbeats 1000000 in
theorem c_J7_fill2 {l : Launch} {σ : av_S} (v : Int32)  : av_M l RJ7 cJ7_fill_53178 4 none 0 [.ref 2, .int v] σ none (av_set σ 2 (fl (σ 2) 60 v)) := by
  intro Q hQ
  show av_Ev l RJ7 cJ7_fill_53178 4 none av_E0 0 0 [(0, .ref 2), (1, .int v)] [] σ Q
  refine ev_iconst dJ7_fill_53178_0 (v := nI 0) (by decide) ?_
  refine ev_istore_n (lv' := [(2, .int (nI 0)), (0, .ref 2), (1, .int v)]) dJ7_fill_53178_1 rfl (by decide) rfl ?_
  refine ev_aload_n dJ7_fill_53178_2 rfl 1 rfl ?_
  refine ev_alen (v := nI 60) dJ7_fill_53178_3 (by decide) sh_2 (by decide) rfl ?_
  refine ev_istore_n (lv' := [(3, .int (nI 60)), (2, .int (nI 0)), (0, .ref 2), (1, .int v)]) dJ7_fill_53178_4 rfl (by decide) rfl ?_
  refine ev_lv (lv' := [(0, .ref 2), (1, .int v), (2, .int (nI 0)), (3, .int (nI 60))]) [2, 3, 1, 0] rfl ?_
  refine ev_st (σ' := av_set σ 2 (fo 0 (fun k g => upd g k v) (σ 2))) (by simp only [fo_0]; first | rfl | (funext a; unfold av_set; (repeat' split) <;> first | rfl | (subst_vars; rfl) | (exfalso; omega))) ?_
  refine loop_up (fun k => av_Ev l RJ7 cJ7_fill_53178 4 none av_E0 0 5 [(0, .ref 2), (1, .int v), (2, .int (nI k)), (3, .int (nI 60))] [] (av_set σ 2 (fo k (fun k g => upd g k v) (σ 2))) Q) 60 ?_ ?_
  · show av_Ev l RJ7 cJ7_fill_53178 4 none av_E0 0 5 [(0, .ref 2), (1, .int v), (2, .int (nI 60)), (3, .int (nI 60))] [] (av_set σ 2 (fo 60 (fun k g => upd g k v) (σ 2))) Q
    refine ev_iload_n dJ7_fill_53178_5 rfl 2 rfl ?_
    refine ev_iload_n dJ7_fill_53178_6 rfl 3 rfl ?_
    refine ev_ncmp_ge (tgt := 20) dJ7_fill_53178_7 (by decide) (by omega) (by omega) (fun h7 => ?_) (fun h7 => ?_)
    · exact ev_return dJ7_fill_53178_20 rfl (leafV hQ rfl)
    · exact absurd h7 (by omega)
  · intro k hk ihk
    show av_Ev l RJ7 cJ7_fill_53178 4 none av_E0 0 5 [(0, .ref 2), (1, .int v), (2, .int (nI k)), (3, .int (nI 60))] [] (av_set σ 2 (fo k (fun k g => upd g k v) (σ 2))) Q
    refine ev_iload_n dJ7_fill_53178_5 rfl 2 rfl ?_
    refine ev_iload_n dJ7_fill_53178_6 rfl 3 rfl ?_
    refine ev_ncmp_ge (tgt := 20) dJ7_fill_53178_7 (by decide) (by omega) (by omega) (fun h7 => ?_) (fun h7 => ?_)
    · exact absurd h7 (by omega)
    · refine ev_aload_n dJ7_fill_53178_10 rfl 0 rfl ?_
      refine ev_iload_n dJ7_fill_53178_11 rfl 2 rfl ?_
      refine ev_iload_n dJ7_fill_53178_12 rfl 1 rfl ?_
      refine ev_iast (e := k) dJ7_fill_53178_13 (by decide) sh_2 (by omega) (by decide) ?_
      refine ev_st (σ' := av_set σ 2 (upd (fo k (fun k g => upd g k v) (σ 2)) k v)) (by first | rfl | exact av_set_set _ _ _ _ | (funext a; unfold av_set; (repeat' split) <;> first | rfl | (exfalso; omega)) | (funext a; simp only [av_set, cpS]; (repeat' split) <;> first | rfl | (exfalso; omega))) ?_
      refine ev_iinc (lv' := [(2, .int (nI (k + 1))), (0, .ref 2), (1, .int v), (3, .int (nI 60))]) dJ7_fill_53178_14 2 rfl (nI_inc k) (by decide) rfl ?_
      refine ev_goto (tgt := 5) dJ7_fill_53178_17 (by decide) ?_
      refine ev_lv (lv' := [(0, .ref 2), (1, .int v), (2, .int (nI (k + 1))), (3, .int (nI 60))]) [1, 2, 0, 3] rfl ?_
      have ih9 : av_Ev l RJ7 cJ7_fill_53178 4 none av_E0 0 5 [(0, .ref 2), (1, .int v), (2, .int (nI (k + 1))), (3, .int (nI 60))] [] (av_set σ 2 (fo (k + 1) (fun k g => upd g k v) (σ 2))) Q := ihk
      rw [show av_set σ 2 (fo (k + 1) (fun k g => upd g k v) (σ 2)) = av_set σ 2 (upd (fo k (fun k g => upd g k v) (σ 2)) k v) from rfl] at ih9
      exact ih9

set_option maxRecDepth 100000 in
set_option maxHeartbeats 1000000 in
theorem c_J7_fill3 {l : Launch} {σ : av_S} (v : Int32)  : av_M l RJ7 cJ7_fill_53178 4 none 0 [.ref 3, .int v] σ none (av_set σ 3 (fl (σ 3) 24 v)) := by
  intro Q hQ
  show av_Ev l RJ7 cJ7_fill_53178 4 none av_E0 0 0 [(0, .ref 3), (1, .int v)] [] σ Q
  refine ev_iconst dJ7_fill_53178_0 (v := nI 0) (by decide) ?_
  refine ev_istore_n (lv' := [(2, .int (nI 0)), (0, .ref 3), (1, .int v)]) dJ7_fill_53178_1 rfl (by decide) rfl ?_
  refine ev_aload_n dJ7_fill_53178_2 rfl 1 rfl ?_
  refine ev_alen (v := nI 24) dJ7_fill_53178_3 (by decide) sh_3 (by decide) rfl ?_
  refine ev_istore_n (lv' := [(3, .int (nI 24)), (2, .int (nI 0)), (0, .ref 3), (1, .int v)]) dJ7_fill_53178_4 rfl (by decide) rfl ?_
  refine ev_lv (lv' := [(0, .ref 3), (1, .int v), (2, .int (nI 0)), (3, .int (nI 24))]) [2, 3, 1, 0] rfl ?_
  refine ev_st (σ' := av_set σ 3 (fo 0 (fun k g => upd g k v) (σ 3))) (by simp only [fo_0]; first | rfl | (funext a; unfold av_set; (repeat' split) <;> first | rfl | (subst_vars; rfl) | (exfalso; omega))) ?_
  refine loop_up (fun k => av_Ev l RJ7 cJ7_fill_53178 4 none av_E0 0 5 [(0, .ref 3), (1, .int v), (2, .int (nI k)), (3, .int (nI 24))] [] (av_set σ 3 (fo k (fun k g => upd g k v) (σ 3))) Q) 24 ?_ ?_
  · show av_Ev l RJ7 cJ7_fill_53178 4 none av_E0 0 5 [(0, .ref 3), (1, .int v), (2, .int (nI 24)), (3, .int (nI 24))] [] (av_set σ 3 (fo 24 (fun k g => upd g k v) (σ 3))) Q
    refine ev_iload_n dJ7_fill_53178_5 rfl 2 rfl ?_
    refine ev_iload_n dJ7_fill_53178_6 rfl 3 rfl ?_
    refine ev_ncmp_ge (tgt := 20) dJ7_fill_53178_7 (by decide) (by omega) (by omega) (fun h7 => ?_) (fun h7 => ?_)
    · exact ev_return dJ7_fill_53178_20 rfl (leafV hQ rfl)
    · exact absurd h7 (by omega)
  · intro k hk ihk
    show av_Ev l RJ7 cJ7_fill_53178 4 none av_E0 0 5 [(0, .ref 3), (1, .int v), (2, .int (nI k)), (3, .int (nI 24))] [] (av_set σ 3 (fo k (fun k g => upd g k v) (σ 3))) Q
    refine ev_iload_n dJ7_fill_53178_5 rfl 2 rfl ?_
    refine ev_iload_n dJ7_fill_53178_6 rfl 3 rfl ?_
    refine ev_ncmp_ge (tgt := 20) dJ7_fill_53178_7 (by decide) (by omega) (by omega) (fun h7 => ?_) (fun h7 => ?_)
    · exact absurd h7 (by omega)
    · refine ev_aload_n dJ7_fill_53178_10 rfl 0 rfl ?_
      refine ev_iload_n dJ7_fill_53178_11 rfl 2 rfl ?_
      refine ev_iload_n dJ7_fill_53178_12 rfl 1 rfl ?_
      refine ev_iast (e := k) dJ7_fill_53178_13 (by decide) sh_3 (by omega) (by decide) ?_
      refine ev_st (σ' := av_set σ 3 (upd (fo k (fun k g => upd g k v) (σ 3)) k v)) (by first | rfl | exact av_set_set _ _ _ _ | (funext a; unfold av_set; (repeat' split) <;> first | rfl | (exfalso; omega)) | (funext a; simp only [av_set, cpS]; (repeat' split) <;> first | rfl | (exfalso; omega))) ?_
      refine ev_iinc (lv' := [(2, .int (nI (k + 1))), (0, .ref 3), (1, .int v), (3, .int (nI 24))]) dJ7_fill_53178_14 2 rfl (nI_inc k) (by decide) rfl ?_
      refine ev_goto (tgt := 5) dJ7_fill_53178_17 (by decide) ?_
      refine ev_lv (lv' := [(0, .ref 3), (1, .int v), (2, .int (nI (k + 1))), (3, .int (nI 24))]) [1, 2, 0, 3] rfl ?_
      have ih9 : av_Ev l RJ7 cJ7_fill_53178 4 none av_E0 0 5 [(0, .ref 3), (1, .int v), (2, .int (nI (k + 1))), (3, .int (nI 24))] [] (av_set σ 3 (fo (k + 1) (fun k g => upd g k v) (σ 3))) Q := ihk
      rw [show av_set σ 3 (fo (k + 1) (fun k g => upd g k v) (σ 3)) = av_set σ 3 (upd (fo k (fun k g => upd g k v) (σ 3)) k v) from rfl] at ih9
      exact ih9

set_option maxRecDepth 100000 in
set_option maxHeartbeats 1000000 in
theorem c_J7_fill4 {l : Launch} {σ : av_S} (v : Int32)  : av_M l RJ7 cJ7_fill_53178 4 none 0 [.ref 4, .int v] σ none (av_set σ 4 (fl (σ 4) 24 v)) := by
  intro Q hQ
  show av_Ev l RJ7 cJ7_fill_53178 4 none av_E0 0 0 [(0, .ref 4), (1, .int v)] [] σ Q
  refine ev_iconst dJ7_fill_53178_0 (v := nI 0) (by decide) ?_
  refine ev_istore_n (lv' := [(2, .int (nI 0)), (0, .ref 4), (1, .int v)]) dJ7_fill_53178_1 rfl (by decide) rfl ?_
  refine ev_aload_n dJ7_fill_53178_2 rfl 1 rfl ?_
  refine ev_alen (v := nI 24) dJ7_fill_53178_3 (by decide) sh_4 (by decide) rfl ?_
  refine ev_istore_n (lv' := [(3, .int (nI 24)), (2, .int (nI 0)), (0, .ref 4), (1, .int v)]) dJ7_fill_53178_4 rfl (by decide) rfl ?_
  refine ev_lv (lv' := [(0, .ref 4), (1, .int v), (2, .int (nI 0)), (3, .int (nI 24))]) [2, 3, 1, 0] rfl ?_
  refine ev_st (σ' := av_set σ 4 (fo 0 (fun k g => upd g k v) (σ 4))) (by simp only [fo_0]; first | rfl | (funext a; unfold av_set; (repeat' split) <;> first | rfl | (subst_vars; rfl) | (exfalso; omega))) ?_
  refine loop_up (fun k => av_Ev l RJ7 cJ7_fill_53178 4 none av_E0 0 5 [(0, .ref 4), (1, .int v), (2, .int (nI k)), (3, .int (nI 24))] [] (av_set σ 4 (fo k (fun k g => upd g k v) (σ 4))) Q) 24 ?_ ?_
  · show av_Ev l RJ7 cJ7_fill_53178 4 none av_E0 0 5 [(0, .ref 4), (1, .int v), (2, .int (nI 24)), (3, .int (nI 24))] [] (av_set σ 4 (fo 24 (fun k g => upd g k v) (σ 4))) Q
    refine ev_iload_n dJ7_fill_53178_5 rfl 2 rfl ?_
    refine ev_iload_n dJ7_fill_53178_6 rfl 3 rfl ?_
    refine ev_ncmp_ge (tgt := 20) dJ7_fill_53178_7 (by decide) (by omega) (by omega) (fun h7 => ?_) (fun h7 => ?_)
    · exact ev_return dJ7_fill_53178_20 rfl (leafV hQ rfl)
    · exact absurd h7 (by omega)
  · intro k hk ihk
    show av_Ev l RJ7 cJ7_fill_53178 4 none av_E0 0 5 [(0, .ref 4), (1, .int v), (2, .int (nI k)), (3, .int (nI 24))] [] (av_set σ 4 (fo k (fun k g => upd g k v) (σ 4))) Q
    refine ev_iload_n dJ7_fill_53178_5 rfl 2 rfl ?_
    refine ev_iload_n dJ7_fill_53178_6 rfl 3 rfl ?_
    refine ev_ncmp_ge (tgt := 20) dJ7_fill_53178_7 (by decide) (by omega) (by omega) (fun h7 => ?_) (fun h7 => ?_)
    · exact absurd h7 (by omega)
    · refine ev_aload_n dJ7_fill_53178_10 rfl 0 rfl ?_
      refine ev_iload_n dJ7_fill_53178_11 rfl 2 rfl ?_
      refine ev_iload_n dJ7_fill_53178_12 rfl 1 rfl ?_
      refine ev_iast (e := k) dJ7_fill_53178_13 (by decide) sh_4 (by omega) (by decide) ?_
      refine ev_st (σ' := av_set σ 4 (upd (fo k (fun k g => upd g k v) (σ 4)) k v)) (by first | rfl | exact av_set_set _ _ _ _ | (funext a; unfold av_set; (repeat' split) <;> first | rfl | (exfalso; omega)) | (funext a; simp only [av_set, cpS]; (repeat' split) <;> first | rfl | (exfalso; omega))) ?_
      refine ev_iinc (lv' := [(2, .int (nI (k + 1))), (0, .ref 4), (1, .int v), (3, .int (nI 24))]) dJ7_fill_53178_14 2 rfl (nI_inc k) (by decide) rfl ?_
      refine ev_goto (tgt := 5) dJ7_fill_53178_17 (by decide) ?_
      refine ev_lv (lv' := [(0, .ref 4), (1, .int v), (2, .int (nI (k + 1))), (3, .int (nI 24))]) [1, 2, 0, 3] rfl ?_
      have ih9 : av_Ev l RJ7 cJ7_fill_53178 4 none av_E0 0 5 [(0, .ref 4), (1, .int v), (2, .int (nI (k + 1))), (3, .int (nI 24))] [] (av_set σ 4 (fo (k + 1) (fun k g => upd g k v) (σ 4))) Q := ihk
      rw [show av_set σ 4 (fo (k + 1) (fun k g => upd g k v) (σ 4)) = av_set σ 4 (upd (fo k (fun k g => upd g k v) (σ 4)) k v) from rfl] at ih9
      exact ih9

set_option maxRecDepth 100000 in
set_option maxHeartbeats 1000000 in
theorem c_X4_reset {l : Launch} {σ : av_S} (x : Int32)  : av_M l RX4 cX4_reset 2 none 1 [.ref 0, .int x] σ none (av_set (av_set (av_set (av_set (av_set σ 0 (upd (upd (upd (upd (σ 0) 0 x) 1 (nI 0)) 2 (nI 0)) 3 (nI 0))) 1 (fl (σ 1) 6 (nI 0))) 2 (fl (σ 2) 60 (-1))) 3 (fl (σ 3) 24 (nI 0))) 4 (fl (σ 4) 24 (nI 0))) := by
  intro Q hQ
  show av_Ev l RX4 cX4_reset 2 none av_E0 1 0 [(0, .ref 0), (1, .int x)] [] σ Q
  refine ev_aload_n dX4_reset_0 rfl 0 rfl ?_
  refine ev_iload_n dX4_reset_1 rfl 1 rfl ?_
  refine ev_putI dX4_reset_2 C_X4 L_X4_9 (by decide) (by decide) sh_0 rfl rfl rfl ?_
  refine ev_aload_n dX4_reset_5 rfl 0 rfl ?_
  refine ev_iconst dX4_reset_6 (v := nI 0) (by decide) ?_
  refine ev_putI dX4_reset_7 C_X4 L_X4_15 (by decide) (by decide) sh_0 rfl rfl rfl ?_
  refine ev_st (σ' := av_set σ 0 (upd (upd (σ 0) 0 x) 1 (nI 0))) (by first | rfl | exact av_set_set _ _ _ _ | (funext a; unfold av_set; (repeat' split) <;> first | rfl | (exfalso; omega)) | (funext a; simp only [av_set, cpS]; (repeat' split) <;> first | rfl | (exfalso; omega))) ?_
  refine ev_aload_n dX4_reset_10 rfl 0 rfl ?_
  refine ev_iconst dX4_reset_11 (v := nI 0) (by decide) ?_
  refine ev_putI dX4_reset_12 C_X4 L_X4_18 (by decide) (by decide) sh_0 rfl rfl rfl ?_
  refine ev_st (σ' := av_set σ 0 (upd (upd (upd (σ 0) 0 x) 1 (nI 0)) 2 (nI 0))) (by first | rfl | exact av_set_set _ _ _ _ | (funext a; unfold av_set; (repeat' split) <;> first | rfl | (exfalso; omega)) | (funext a; simp only [av_set, cpS]; (repeat' split) <;> first | rfl | (exfalso; omega))) ?_
  refine ev_aload_n dX4_reset_15 rfl 0 rfl ?_
  refine ev_iconst dX4_reset_16 (v := nI 0) (by decide) ?_
  refine ev_putI dX4_reset_17 C_X4 L_X4_21 (by decide) (by decide) sh_0 rfl rfl rfl ?_
  refine ev_st (σ' := av_set σ 0 (upd (upd (upd (upd (σ 0) 0 x) 1 (nI 0)) 2 (nI 0)) 3 (nI 0))) (by first | rfl | exact av_set_set _ _ _ _ | (funext a; unfold av_set; (repeat' split) <;> first | rfl | (exfalso; omega)) | (funext a; simp only [av_set, cpS]; (repeat' split) <;> first | rfl | (exfalso; omega))) ?_
  refine ev_aload_n dX4_reset_20 rfl 0 rfl ?_
  refine ev_getR dX4_reset_21 C_X4 L_X4_24 (by decide) (by decide) sh_0 rfl ?_
  refine ev_iconst dX4_reset_24 (v := nI 0) (by decide) ?_
  refine ev_callSv dX4_reset_25 (Or.inl M_X4_43) Y_J7_fill_53178 [.ref 1, .int (nI 0)] (c_J7_fill1 (nI 0) ) (by decide) (Nat.le_of_ble_eq_true rfl) rfl rfl (Nat.le_of_ble_eq_true rfl) ?_
  refine ev_st (σ' := av_set (av_set σ 0 (upd (upd (upd (upd (σ 0) 0 x) 1 (nI 0)) 2 (nI 0)) 3 (nI 0))) 1 (fl ((σ 1)) 6 (nI 0))) (by first | rfl | exact av_set_set _ _ _ _ | (funext a; unfold av_set; (repeat' split) <;> first | rfl | (exfalso; omega)) | (funext a; simp only [av_set, cpS]; (repeat' split) <;> first | rfl | (exfalso; omega))) ?_
  refine ev_aload_n dX4_reset_28 rfl 0 rfl ?_
  refine ev_getR dX4_reset_29 C_X4 L_X4_28 (by decide) (by decide) sh_0 rfl ?_
  refine ev_iconst dX4_reset_32 (v := (-1)) (by decide) ?_
  refine ev_callSv dX4_reset_33 (Or.inl M_X4_43) Y_J7_fill_53178 [.ref 2, .int (-1)] (c_J7_fill2 (-1) ) (by decide) (Nat.le_of_ble_eq_true rfl) rfl rfl (Nat.le_of_ble_eq_true rfl) ?_
  refine ev_st (σ' := av_set (av_set (av_set σ 0 (upd (upd (upd (upd (σ 0) 0 x) 1 (nI 0)) 2 (nI 0)) 3 (nI 0))) 1 (fl ((σ 1)) 6 (nI 0))) 2 (fl ((σ 2)) 60 (-1))) (by first | rfl | exact av_set_set _ _ _ _ | (funext a; unfold av_set; (repeat' split) <;> first | rfl | (exfalso; omega)) | (funext a; simp only [av_set, cpS]; (repeat' split) <;> first | rfl | (exfalso; omega))) ?_
  refine ev_aload_n dX4_reset_36 rfl 0 rfl ?_
  refine ev_getR dX4_reset_37 C_X4 L_X4_31 (by decide) (by decide) sh_0 rfl ?_
  refine ev_iconst dX4_reset_40 (v := nI 0) (by decide) ?_
  refine ev_callSv dX4_reset_41 (Or.inl M_X4_43) Y_J7_fill_53178 [.ref 3, .int (nI 0)] (c_J7_fill3 (nI 0) ) (by decide) (Nat.le_of_ble_eq_true rfl) rfl rfl (Nat.le_of_ble_eq_true rfl) ?_
  refine ev_st (σ' := av_set (av_set (av_set (av_set σ 0 (upd (upd (upd (upd (σ 0) 0 x) 1 (nI 0)) 2 (nI 0)) 3 (nI 0))) 1 (fl ((σ 1)) 6 (nI 0))) 2 (fl ((σ 2)) 60 (-1))) 3 (fl ((σ 3)) 24 (nI 0))) (by first | rfl | exact av_set_set _ _ _ _ | (funext a; unfold av_set; (repeat' split) <;> first | rfl | (exfalso; omega)) | (funext a; simp only [av_set, cpS]; (repeat' split) <;> first | rfl | (exfalso; omega))) ?_
  refine ev_aload_n dX4_reset_44 rfl 0 rfl ?_
  refine ev_getR dX4_reset_45 C_X4 L_X4_34 (by decide) (by decide) sh_0 rfl ?_
  refine ev_iconst dX4_reset_48 (v := nI 0) (by decide) ?_
  refine ev_callSv dX4_reset_49 (Or.inl M_X4_43) Y_J7_fill_53178 [.ref 4, .int (nI 0)] (c_J7_fill4 (nI 0) ) (by decide) (Nat.le_of_ble_eq_true rfl) rfl rfl (Nat.le_of_ble_eq_true rfl) ?_
  refine ev_st (σ' := av_set (av_set (av_set (av_set (av_set σ 0 (upd (upd (upd (upd (σ 0) 0 x) 1 (nI 0)) 2 (nI 0)) 3 (nI 0))) 1 (fl ((σ 1)) 6 (nI 0))) 2 (fl ((σ 2)) 60 (-1))) 3 (fl ((σ 3)) 24 (nI 0))) 4 (fl ((σ 4)) 24 (nI 0))) (by first | rfl | exact av_set_set _ _ _ _ | (funext a; unfold av_set; (repeat' split) <;> first | rfl | (exfalso; omega)) | (funext a; simp only [av_set, cpS]; (repeat' split) <;> first | rfl | (exfalso; omega))) ?_
  exact ev_return dX4_reset_52 rfl (leafV hQ rfl)

set_option maxRecDepth 100000 in
set_option maxHeartbeats 1000000 in
theorem c_X4_renameUser {l : Launch} {σ : av_S} (s : Nat) (n : Nat) (q : Nat) (hs : s < 6) (hn : n < 10) (hq : q < 10) : av_M l RX4 cX4_renameUser 5 none 3 [.ref 0, .int (nI s), .int (nI n), .int (nI q)] σ none (av_set (av_set (av_set σ 2 (rmU (upd (σ 2) (s * 10 + q) (σ 0 1)) s n)) 3 (rmA (cpA (σ 3) s n q) s n)) 4 (rmA (cpA (σ 4) s n q) s n)) := by
  intro Q hQ
  show av_Ev l RX4 cX4_renameUser 5 none av_E0 3 0 [(0, .ref 0), (1, .int (nI s)), (2, .int (nI n)), (3, .int (nI q))] [] σ Q
  refine ev_aload_n dX4_renameUser_0 rfl 0 rfl ?_
  refine ev_iload_n dX4_renameUser_1 rfl 1 rfl ?_
  refine ev_iload_n dX4_renameUser_2 rfl 3 rfl ?_
  refine ev_callVv (σ' := av_set σ 2 (upd (σ 2) (s * 10 + q) (σ 0 1))) dX4_renameUser_3 M_X4_95 Y_X4_addUser [.int (nI s), .int (nI q)] (c_X4_addUser s q (by omega) (by omega)) (by decide) (Nat.le_of_ble_eq_true rfl) (by decide) sh_0 rfl rfl rfl (Nat.le_of_ble_eq_true rfl) ?_
  refine ev_iconst dX4_renameUser_6 (v := nI 0) (by decide) ?_
  refine ev_istore (lv' := [(4, .int (nI 0)), (0, .ref 0), (1, .int (nI s)), (2, .int (nI n)), (3, .int (nI q))]) dX4_renameUser_7 (by decide) rfl ?_
  refine ev_lv (lv' := [(0, .ref 0), (1, .int (nI s)), (2, .int (nI n)), (3, .int (nI q)), (4, .int (nI 0))]) [1, 2, 3, 4, 0] rfl ?_
  refine ev_st (σ' := av_set (av_set (av_set σ 2 (upd (σ 2) (s * 10 + q) (σ 0 1))) 3 (fo 0 (fun ch M => cpM n q s ch M) (σ 3))) 4 (fo 0 (fun ch M => cpM n q s ch M) (σ 4))) (by simp only [fo_0]; first | rfl | (funext a; unfold av_set; (repeat' split) <;> first | rfl | (subst_vars; rfl) | (exfalso; omega))) ?_
  refine loop_up (fun k => av_Ev l RX4 cX4_renameUser 5 none av_E0 3 9 [(0, .ref 0), (1, .int (nI s)), (2, .int (nI n)), (3, .int (nI q)), (4, .int (nI k))] [] (av_set (av_set (av_set σ 2 (upd (σ 2) (s * 10 + q) (σ 0 1))) 3 (fo k (fun ch M => cpM n q s ch M) (σ 3))) 4 (fo k (fun ch M => cpM n q s ch M) (σ 4))) Q) 4 ?_ ?_
  · show av_Ev l RX4 cX4_renameUser 5 none av_E0 3 9 [(0, .ref 0), (1, .int (nI s)), (2, .int (nI n)), (3, .int (nI q)), (4, .int (nI 4))] [] (av_set (av_set (av_set σ 2 (upd (σ 2) (s * 10 + q) (σ 0 1))) 3 (fo 4 (fun ch M => cpM n q s ch M) (σ 3))) 4 (fo 4 (fun ch M => cpM n q s ch M) (σ 4))) Q
    refine ev_iload dX4_renameUser_9 4 rfl ?_
    refine ev_iconst dX4_renameUser_11 (v := nI 4) (by decide) ?_
    refine ev_ncmp_ge (tgt := 59) dX4_renameUser_12 (by decide) (by omega) (by omega) (fun h12 => ?_) (fun h12 => ?_)
    · refine ev_aload_n dX4_renameUser_59 rfl 0 rfl ?_
      refine ev_iload_n dX4_renameUser_60 rfl 1 rfl ?_
      refine ev_iload_n dX4_renameUser_61 rfl 2 rfl ?_
      refine ev_callVv dX4_renameUser_62 M_X4_108 Y_X4_removeUser [.int (nI s), .int (nI n)] (c_X4_removeUser s n (by omega) (by omega)) (by decide) (Nat.le_of_ble_eq_true rfl) (by decide) sh_0 rfl rfl rfl (Nat.le_of_ble_eq_true rfl) ?_
      refine ev_st (σ' := av_set (av_set (av_set σ 2 (upd ((upd (σ 2) (s * 10 + q) (σ 0 1))) (s * 10 + n) (-1))) 3 (rmA ((fo 4 (fun ch M => cpM n q s ch M) (σ 3))) s n)) 4 (rmA ((fo 4 (fun ch M => cpM n q s ch M) (σ 4))) s n)) (by first | rfl | exact av_set_set _ _ _ _ | (funext a; unfold av_set; (repeat' split) <;> first | rfl | (exfalso; omega)) | (funext a; simp only [av_set, cpS]; (repeat' split) <;> first | rfl | (exfalso; omega))) ?_
      exact ev_return dX4_renameUser_65 rfl (leafV hQ rfl)
    · exact absurd h12 (by omega)
  · intro k hk ihk
    show av_Ev l RX4 cX4_renameUser 5 none av_E0 3 9 [(0, .ref 0), (1, .int (nI s)), (2, .int (nI n)), (3, .int (nI q)), (4, .int (nI k))] [] (av_set (av_set (av_set σ 2 (upd (σ 2) (s * 10 + q) (σ 0 1))) 3 (fo k (fun ch M => cpM n q s ch M) (σ 3))) 4 (fo k (fun ch M => cpM n q s ch M) (σ 4))) Q
    refine ev_iload dX4_renameUser_9 4 rfl ?_
    refine ev_iconst dX4_renameUser_11 (v := nI 4) (by decide) ?_
    refine ev_ncmp_ge (tgt := 59) dX4_renameUser_12 (by decide) (by omega) (by omega) (fun h12 => ?_) (fun h12 => ?_)
    · exact absurd h12 (by omega)
    · refine ev_aload_n dX4_renameUser_15 rfl 0 rfl ?_
      refine ev_iload_n dX4_renameUser_16 rfl 1 rfl ?_
      refine ev_iload_n dX4_renameUser_17 rfl 2 rfl ?_
      refine ev_iload dX4_renameUser_18 4 rfl ?_
      refine ev_callVi (x := b2i (tb ((fo k (fun ch M => cpM n q s ch M) (σ 3)) (s * 4 + k)) n)) dX4_renameUser_20 M_X4_87 Y_X4_isMember [.int (nI s), .int (nI n), .int (nI k)] (c_X4_isMember s n k (by omega) (by omega) (by omega)) (by decide) (Nat.le_of_ble_eq_true rfl) (by decide) sh_0 rfl rfl rfl (Nat.le_of_ble_eq_true rfl) ?_
      refine ev_ifb_eq (tgt := 34) dX4_renameUser_23 (by decide) (fun h23 => ?_) (fun h23 => ?_)
      · refine ev_aload_n dX4_renameUser_34 rfl 0 rfl ?_
        refine ev_iload_n dX4_renameUser_35 rfl 1 rfl ?_
        refine ev_iload_n dX4_renameUser_36 rfl 2 rfl ?_
        refine ev_iload dX4_renameUser_37 4 rfl ?_
        refine ev_callVi (x := b2i (tb ((fo k (fun ch M => cpM n q s ch M) (σ 4)) (s * 4 + k)) n)) dX4_renameUser_39 M_X4_102 Y_X4_isOperator [.int (nI s), .int (nI n), .int (nI k)] (c_X4_isOperator s n k (by omega) (by omega) (by omega)) (by decide) (Nat.le_of_ble_eq_true rfl) (by decide) sh_0 rfl rfl rfl (Nat.le_of_ble_eq_true rfl) ?_
        refine ev_ifb_eq (tgt := 53) dX4_renameUser_42 (by decide) (fun h42 => ?_) (fun h42 => ?_)
        · refine ev_iinc (lv' := [(4, .int (nI (k + 1))), (0, .ref 0), (1, .int (nI s)), (2, .int (nI n)), (3, .int (nI q))]) dX4_renameUser_53 4 rfl (nI_inc k) (by decide) rfl ?_
          refine ev_goto (tgt := 9) dX4_renameUser_56 (by decide) ?_
          refine ev_lv (lv' := [(0, .ref 0), (1, .int (nI s)), (2, .int (nI n)), (3, .int (nI q)), (4, .int (nI (k + 1)))]) [1, 2, 3, 4, 0] rfl ?_
          have ih9 : av_Ev l RX4 cX4_renameUser 5 none av_E0 3 9 [(0, .ref 0), (1, .int (nI s)), (2, .int (nI n)), (3, .int (nI q)), (4, .int (nI (k + 1)))] [] (av_set (av_set (av_set σ 2 (upd (σ 2) (s * 10 + q) (σ 0 1))) 3 (fo (k + 1) (fun ch M => cpM n q s ch M) (σ 3))) 4 (fo (k + 1) (fun ch M => cpM n q s ch M) (σ 4))) Q := ihk
          rw [show av_set (av_set (av_set σ 2 (upd (σ 2) (s * 10 + q) (σ 0 1))) 3 (fo (k + 1) (fun ch M => cpM n q s ch M) (σ 3))) 4 (fo (k + 1) (fun ch M => cpM n q s ch M) (σ 4)) = av_set (av_set (av_set σ 2 (upd (σ 2) (s * 10 + q) (σ 0 1))) 3 (fo k (fun ch M => cpM n q s ch M) (σ 3))) 4 (fo k (fun ch M => cpM n q s ch M) (σ 4)) from (by simp only [fo_s, cpM_t, cpM_f, h12, h23, h42])] at ih9
          exact ih9
        · refine ev_aload_n dX4_renameUser_45 rfl 0 rfl ?_
          refine ev_iload_n dX4_renameUser_46 rfl 1 rfl ?_
          refine ev_iload_n dX4_renameUser_47 rfl 3 rfl ?_
          refine ev_iload dX4_renameUser_48 4 rfl ?_
          refine ev_callVv dX4_renameUser_50 M_X4_105 Y_X4_addOperator [.int (nI s), .int (nI q), .int (nI k)] (c_X4_addOperator s q k (by omega) (by omega) (by omega)) (by decide) (Nat.le_of_ble_eq_true rfl) (by decide) sh_0 rfl rfl rfl (Nat.le_of_ble_eq_true rfl) ?_
          refine ev_st (σ' := av_set (av_set (av_set σ 2 (upd (σ 2) (s * 10 + q) (σ 0 1))) 3 (fo k (fun ch M => cpM n q s ch M) (σ 3))) 4 (adM ((fo k (fun ch M => cpM n q s ch M) (σ 4))) s q k)) (by first | rfl | exact av_set_set _ _ _ _ | (funext a; unfold av_set; (repeat' split) <;> first | rfl | (exfalso; omega)) | (funext a; simp only [av_set, cpS]; (repeat' split) <;> first | rfl | (exfalso; omega))) ?_
          refine ev_iinc (lv' := [(4, .int (nI (k + 1))), (0, .ref 0), (1, .int (nI s)), (2, .int (nI n)), (3, .int (nI q))]) dX4_renameUser_53 4 rfl (nI_inc k) (by decide) rfl ?_
          refine ev_goto (tgt := 9) dX4_renameUser_56 (by decide) ?_
          refine ev_lv (lv' := [(0, .ref 0), (1, .int (nI s)), (2, .int (nI n)), (3, .int (nI q)), (4, .int (nI (k + 1)))]) [1, 2, 3, 4, 0] rfl ?_
          have ih9 : av_Ev l RX4 cX4_renameUser 5 none av_E0 3 9 [(0, .ref 0), (1, .int (nI s)), (2, .int (nI n)), (3, .int (nI q)), (4, .int (nI (k + 1)))] [] (av_set (av_set (av_set σ 2 (upd (σ 2) (s * 10 + q) (σ 0 1))) 3 (fo (k + 1) (fun ch M => cpM n q s ch M) (σ 3))) 4 (fo (k + 1) (fun ch M => cpM n q s ch M) (σ 4))) Q := ihk
          rw [show av_set (av_set (av_set σ 2 (upd (σ 2) (s * 10 + q) (σ 0 1))) 3 (fo (k + 1) (fun ch M => cpM n q s ch M) (σ 3))) 4 (fo (k + 1) (fun ch M => cpM n q s ch M) (σ 4)) = av_set (av_set (av_set σ 2 (upd (σ 2) (s * 10 + q) (σ 0 1))) 3 (fo k (fun ch M => cpM n q s ch M) (σ 3))) 4 (adM ((fo k (fun ch M => cpM n q s ch M) (σ 4))) s q k) from (by simp only [fo_s, cpM_t, cpM_f, h12, h23, h42])] at ih9
          exact ih9
      · refine ev_aload_n dX4_renameUser_26 rfl 0 rfl ?_
        refine ev_iload_n dX4_renameUser_27 rfl 1 rfl ?_
        refine ev_iload_n dX4_renameUser_28 rfl 3 rfl ?_
        refine ev_iload dX4_renameUser_29 4 rfl ?_
        refine ev_callVv dX4_renameUser_31 M_X4_99 Y_X4_addMember [.int (nI s), .int (nI q), .int (nI k)] (c_X4_addMember s q k (by omega) (by omega) (by omega)) (by decide) (Nat.le_of_ble_eq_true rfl) (by decide) sh_0 rfl rfl rfl (Nat.le_of_ble_eq_true rfl) ?_
        refine ev_st (σ' := av_set (av_set (av_set σ 2 (upd (σ 2) (s * 10 + q) (σ 0 1))) 3 (adM ((fo k (fun ch M => cpM n q s ch M) (σ 3))) s q k)) 4 (fo k (fun ch M => cpM n q s ch M) (σ 4))) (by first | rfl | exact av_set_set _ _ _ _ | (funext a; unfold av_set; (repeat' split) <;> first | rfl | (exfalso; omega)) | (funext a; simp only [av_set, cpS]; (repeat' split) <;> first | rfl | (exfalso; omega))) ?_
        refine ev_aload_n dX4_renameUser_34 rfl 0 rfl ?_
        refine ev_iload_n dX4_renameUser_35 rfl 1 rfl ?_
        refine ev_iload_n dX4_renameUser_36 rfl 2 rfl ?_
        refine ev_iload dX4_renameUser_37 4 rfl ?_
        refine ev_callVi (x := b2i (tb ((fo k (fun ch M => cpM n q s ch M) (σ 4)) (s * 4 + k)) n)) dX4_renameUser_39 M_X4_102 Y_X4_isOperator [.int (nI s), .int (nI n), .int (nI k)] (c_X4_isOperator s n k (by omega) (by omega) (by omega)) (by decide) (Nat.le_of_ble_eq_true rfl) (by decide) sh_0 rfl rfl rfl (Nat.le_of_ble_eq_true rfl) ?_
        refine ev_ifb_eq (tgt := 53) dX4_renameUser_42 (by decide) (fun h42 => ?_) (fun h42 => ?_)
        · refine ev_iinc (lv' := [(4, .int (nI (k + 1))), (0, .ref 0), (1, .int (nI s)), (2, .int (nI n)), (3, .int (nI q))]) dX4_renameUser_53 4 rfl (nI_inc k) (by decide) rfl ?_
          refine ev_goto (tgt := 9) dX4_renameUser_56 (by decide) ?_
          refine ev_lv (lv' := [(0, .ref 0), (1, .int (nI s)), (2, .int (nI n)), (3, .int (nI q)), (4, .int (nI (k + 1)))]) [1, 2, 3, 4, 0] rfl ?_
          have ih9 : av_Ev l RX4 cX4_renameUser 5 none av_E0 3 9 [(0, .ref 0), (1, .int (nI s)), (2, .int (nI n)), (3, .int (nI q)), (4, .int (nI (k + 1)))] [] (av_set (av_set (av_set σ 2 (upd (σ 2) (s * 10 + q) (σ 0 1))) 3 (fo (k + 1) (fun ch M => cpM n q s ch M) (σ 3))) 4 (fo (k + 1) (fun ch M => cpM n q s ch M) (σ 4))) Q := ihk
          rw [show av_set (av_set (av_set σ 2 (upd (σ 2) (s * 10 + q) (σ 0 1))) 3 (fo (k + 1) (fun ch M => cpM n q s ch M) (σ 3))) 4 (fo (k + 1) (fun ch M => cpM n q s ch M) (σ 4)) = av_set (av_set (av_set σ 2 (upd (σ 2) (s * 10 + q) (σ 0 1))) 3 (adM ((fo k (fun ch M => cpM n q s ch M) (σ 3))) s q k)) 4 (fo k (fun ch M => cpM n q s ch M) (σ 4)) from (by simp only [fo_s, cpM_t, cpM_f, h12, h23, h42])] at ih9
          exact ih9
        · refine ev_aload_n dX4_renameUser_45 rfl 0 rfl ?_
          refine ev_iload_n dX4_renameUser_46 rfl 1 rfl ?_
          refine ev_iload_n dX4_renameUser_47 rfl 3 rfl ?_
          refine ev_iload dX4_renameUser_48 4 rfl ?_
          refine ev_callVv dX4_renameUser_50 M_X4_105 Y_X4_addOperator [.int (nI s), .int (nI q), .int (nI k)] (c_X4_addOperator s q k (by omega) (by omega) (by omega)) (by decide) (Nat.le_of_ble_eq_true rfl) (by decide) sh_0 rfl rfl rfl (Nat.le_of_ble_eq_true rfl) ?_
          refine ev_st (σ' := av_set (av_set (av_set σ 2 (upd (σ 2) (s * 10 + q) (σ 0 1))) 3 (adM ((fo k (fun ch M => cpM n q s ch M) (σ 3))) s q k)) 4 (adM ((fo k (fun ch M => cpM n q s ch M) (σ 4))) s q k)) (by first | rfl | exact av_set_set _ _ _ _ | (funext a; unfold av_set; (repeat' split) <;> first | rfl | (exfalso; omega)) | (funext a; simp only [av_set, cpS]; (repeat' split) <;> first | rfl | (exfalso; omega))) ?_
          refine ev_iinc (lv' := [(4, .int (nI (k + 1))), (0, .ref 0), (1, .int (nI s)), (2, .int (nI n)), (3, .int (nI q))]) dX4_renameUser_53 4 rfl (nI_inc k) (by decide) rfl ?_
          refine ev_goto (tgt := 9) dX4_renameUser_56 (by decide) ?_
          refine ev_lv (lv' := [(0, .ref 0), (1, .int (nI s)), (2, .int (nI n)), (3, .int (nI q)), (4, .int (nI (k + 1)))]) [1, 2, 3, 4, 0] rfl ?_
          have ih9 : av_Ev l RX4 cX4_renameUser 5 none av_E0 3 9 [(0, .ref 0), (1, .int (nI s)), (2, .int (nI n)), (3, .int (nI q)), (4, .int (nI (k + 1)))] [] (av_set (av_set (av_set σ 2 (upd (σ 2) (s * 10 + q) (σ 0 1))) 3 (fo (k + 1) (fun ch M => cpM n q s ch M) (σ 3))) 4 (fo (k + 1) (fun ch M => cpM n q s ch M) (σ 4))) Q := ihk
          rw [show av_set (av_set (av_set σ 2 (upd (σ 2) (s * 10 + q) (σ 0 1))) 3 (fo (k + 1) (fun ch M => cpM n q s ch M) (σ 3))) 4 (fo (k + 1) (fun ch M => cpM n q s ch M) (σ 4)) = av_set (av_set (av_set σ 2 (upd (σ 2) (s * 10 + q) (σ 0 1))) 3 (adM ((fo k (fun ch M => cpM n q s ch M) (σ 3))) s q k)) 4 (adM ((fo k (fun ch M => cpM n q s ch M) (σ 4))) s q k) from (by simp only [fo_s, cpM_t, cpM_f, h12, h23, h42])] at ih9
          exact ih9

set_option maxRecDepth 100000 in
set_option maxHeartbeats 1000000 in
theorem c_X4_countMessages {l : Launch} {σ : av_S} (s : Nat) (hs : s < 6) : av_M l RX4 cX4_countMessages 6 (some .int) 3 [.ref 0, .int (nI s)] σ (some (.int (cm (σ 1) (σ 2) (σ 3) (σ 6) s))) σ := by
  intro Q hQ
  show av_Ev l RX4 cX4_countMessages 6 (some .int) av_E0 3 0 [(0, .ref 0), (1, .int (nI s))] [] σ Q
  refine ev_aload_n dX4_countMessages_0 rfl 0 rfl ?_
  refine ev_iload_n dX4_countMessages_1 rfl 1 rfl ?_
  refine ev_callVi (x := net (σ 1) s) dX4_countMessages_2 M_X4_71 Y_X4_networkOf [.int (nI s)] (c_X4_networkOf s (by omega)) (by decide) (Nat.le_of_ble_eq_true rfl) (by decide) sh_0 rfl rfl rfl (Nat.le_of_ble_eq_true rfl) ?_
  refine ev_istore_n (lv' := [(2, .int (net (σ 1) s)), (0, .ref 0), (1, .int (nI s))]) dX4_countMessages_5 rfl (by decide) rfl ?_
  refine ev_iload_n dX4_countMessages_6 rfl 0 rfl ?_
  refine ev_callSi (x := jbc (net (σ 1) s)) dX4_countMessages_7 (Or.inl M_X4_121) Y_J6_bitCount_0f7a4 [.int (net (σ 1) s)] (c_J6_bitCount_0f7a4 (net (σ 1) s) ) (by decide) (Nat.le_of_ble_eq_true rfl) rfl rfl (Nat.le_of_ble_eq_true rfl) ?_
  refine ev_aload_n dX4_countMessages_10 rfl 1 rfl ?_
  refine ev_iload_n dX4_countMessages_11 rfl 0 rfl ?_
  refine ev_callVi (x := nI (cu (σ 2) (net (σ 1) s))) dX4_countMessages_12 M_X4_126 Y_X4_countUsers [.int (net (σ 1) s)] (c_X4_countUsers (net (σ 1) s) ) (by decide) (Nat.le_of_ble_eq_true rfl) (by decide) sh_0 rfl rfl rfl (Nat.le_of_ble_eq_true rfl) ?_
  refine ev_iadd dX4_countMessages_15 ?_
  refine ev_istore_n (lv' := [(3, .int ((jbc (net (σ 1) s)) + (nI (cu (σ 2) (net (σ 1) s))))), (2, .int (net (σ 1) s)), (0, .ref 0), (1, .int (nI s))]) dX4_countMessages_16 rfl (by decide) rfl ?_
  refine ev_iconst dX4_countMessages_17 (v := nI 0) (by decide) ?_
  refine ev_istore (lv' := [(4, .int (nI 0)), (3, .int ((jbc (net (σ 1) s)) + (nI (cu (σ 2) (net (σ 1) s))))), (2, .int (net (σ 1) s)), (0, .ref 0), (1, .int (nI s))]) dX4_countMessages_18 (by decide) rfl ?_
  refine ev_lv (lv' := [(0, .ref 0), (1, .int (nI s)), (2, .int (net (σ 1) s)), (3, .int ((jbc (net (σ 1) s)) + (nI (cu (σ 2) (net (σ 1) s))))), (4, .int (nI 0))]) [3, 4, 2, 1, 0] rfl ?_
  refine loop_up (fun k => av_Ev l RX4 cX4_countMessages 6 (some .int) av_E0 3 20 [(0, .ref 0), (1, .int (nI s)), (2, .int (net (σ 1) s)), (3, .int (fo k (fun ch x => cmF (σ 1) (σ 3) (σ 6) s ch x) (jbc (net (σ 1) s) + nI (cu (σ 2) (net (σ 1) s))))), (4, .int (nI k))] [] σ Q) 4 ?_ ?_
  · show av_Ev l RX4 cX4_countMessages 6 (some .int) av_E0 3 20 [(0, .ref 0), (1, .int (nI s)), (2, .int (net (σ 1) s)), (3, .int (fo 4 (fun ch x => cmF (σ 1) (σ 3) (σ 6) s ch x) (jbc (net (σ 1) s) + nI (cu (σ 2) (net (σ 1) s))))), (4, .int (nI 4))] [] σ Q
    refine ev_iload dX4_countMessages_20 4 rfl ?_
    refine ev_iconst dX4_countMessages_22 (v := nI 4) (by decide) ?_
    refine ev_ncmp_ge (tgt := 65) dX4_countMessages_23 (by decide) (by omega) (by omega) (fun h23 => ?_) (fun h23 => ?_)
    · refine ev_iload_n dX4_countMessages_65 rfl 3 rfl ?_
      exact ev_ireturn dX4_countMessages_66 rfl rfl (leafI hQ (by first | rfl | (simp [h23]; done)) rfl)
    · exact absurd h23 (by omega)
  · intro k hk ihk
    show av_Ev l RX4 cX4_countMessages 6 (some .int) av_E0 3 20 [(0, .ref 0), (1, .int (nI s)), (2, .int (net (σ 1) s)), (3, .int (fo k (fun ch x => cmF (σ 1) (σ 3) (σ 6) s ch x) (jbc (net (σ 1) s) + nI (cu (σ 2) (net (σ 1) s))))), (4, .int (nI k))] [] σ Q
    refine ev_iload dX4_countMessages_20 4 rfl ?_
    refine ev_iconst dX4_countMessages_22 (v := nI 4) (by decide) ?_
    refine ev_ncmp_ge (tgt := 65) dX4_countMessages_23 (by decide) (by omega) (by omega) (fun h23 => ?_) (fun h23 => ?_)
    · exact absurd h23 (by omega)
    · refine ev_aload_n dX4_countMessages_26 rfl 0 rfl ?_
      refine ev_iload_n dX4_countMessages_27 rfl 2 rfl ?_
      refine ev_iload dX4_countMessages_28 4 rfl ?_
      refine ev_callVi (x := un (σ 3) (net (σ 1) s) k) dX4_countMessages_30 M_X4_118 Y_X4_membersIn [.int (net (σ 1) s), .int (nI k)] (c_X4_membersIn (net (σ 1) s) k (by omega)) (by decide) (Nat.le_of_ble_eq_true rfl) (by decide) sh_0 rfl rfl rfl (Nat.le_of_ble_eq_true rfl) ?_
      refine ev_callSi (x := jbc (un (σ 3) (net (σ 1) s) k)) dX4_countMessages_33 (Or.inl M_X4_121) Y_J6_bitCount_0f7a4 [.int (un (σ 3) (net (σ 1) s) k)] (c_J6_bitCount_0f7a4 (un (σ 3) (net (σ 1) s) k) ) (by decide) (Nat.le_of_ble_eq_true rfl) rfl rfl (Nat.le_of_ble_eq_true rfl) ?_
      refine ev_istore (lv' := [(5, .int (jbc (un (σ 3) (net (σ 1) s) k))), (0, .ref 0), (1, .int (nI s)), (2, .int (net (σ 1) s)), (3, .int (fo k (fun ch x => cmF (σ 1) (σ 3) (σ 6) s ch x) (jbc (net (σ 1) s) + nI (cu (σ 2) (net (σ 1) s))))), (4, .int (nI k))]) dX4_countMessages_36 (by decide) rfl ?_
      refine ev_iload dX4_countMessages_38 0 rfl ?_
      refine ev_if_le (tgt := 59) dX4_countMessages_40 (by decide) (fun h40 => ?_) (fun h40 => ?_)
      · refine ev_iinc (lv' := [(4, .int (nI (k + 1))), (5, .int (jbc (un (σ 3) (net (σ 1) s) k))), (0, .ref 0), (1, .int (nI s)), (2, .int (net (σ 1) s)), (3, .int (fo k (fun ch x => cmF (σ 1) (σ 3) (σ 6) s ch x) (jbc (net (σ 1) s) + nI (cu (σ 2) (net (σ 1) s)))))]) dX4_countMessages_59 5 rfl (nI_inc k) (by decide) rfl ?_
        refine ev_goto (tgt := 20) dX4_countMessages_62 (by decide) ?_
        refine ev_lv (lv' := [(0, .ref 0), (1, .int (nI s)), (2, .int (net (σ 1) s)), (3, .int (fo k (fun ch x => cmF (σ 1) (σ 3) (σ 6) s ch x) (jbc (net (σ 1) s) + nI (cu (σ 2) (net (σ 1) s))))), (4, .int (nI (k + 1)))]) [2, 3, 4, 5, 0] rfl ?_
        have ih9 : av_Ev l RX4 cX4_countMessages 6 (some .int) av_E0 3 20 [(0, .ref 0), (1, .int (nI s)), (2, .int (net (σ 1) s)), (3, .int (fo (k + 1) (fun ch x => cmF (σ 1) (σ 3) (σ 6) s ch x) (jbc (net (σ 1) s) + nI (cu (σ 2) (net (σ 1) s))))), (4, .int (nI (k + 1)))] [] σ Q := ihk
        rw [show fo (k + 1) (fun ch x => cmF (σ 1) (σ 3) (σ 6) s ch x) (jbc (net (σ 1) s) + nI (cu (σ 2) (net (σ 1) s))) = fo k (fun ch x => cmF (σ 1) (σ 3) (σ 6) s ch x) (jbc (net (σ 1) s) + nI (cu (σ 2) (net (σ 1) s))) from (by rw [fo_s]; simp [cmF, h23, h40])] at ih9
        exact ih9
      · refine ev_iload_n dX4_countMessages_43 rfl 4 rfl ?_
        refine ev_iload dX4_countMessages_44 0 rfl ?_
        refine ev_aload_n dX4_countMessages_46 rfl 1 rfl ?_
        refine ev_iload_n dX4_countMessages_47 rfl 2 rfl ?_
        refine ev_iload dX4_countMessages_48 5 rfl ?_
        refine ev_callVi (x := σ 6 (s * 4 + k)) dX4_countMessages_50 M_X4_129 Y_X4_modesOfChannel [.int (nI s), .int (nI k)] (c_X4_modesOfChannel s k (by omega) (by omega)) (by decide) (Nat.le_of_ble_eq_true rfl) (by decide) sh_0 rfl rfl rfl (Nat.le_of_ble_eq_true rfl) ?_
        refine ev_callSi (x := jbc (σ 6 (s * 4 + k))) dX4_countMessages_53 (Or.inl M_X4_121) Y_J6_bitCount_0f7a4 [.int (σ 6 (s * 4 + k))] (c_J6_bitCount_0f7a4 (σ 6 (s * 4 + k)) ) (by decide) (Nat.le_of_ble_eq_true rfl) rfl rfl (Nat.le_of_ble_eq_true rfl) ?_
        refine ev_iadd dX4_countMessages_56 ?_
        refine ev_iadd dX4_countMessages_57 ?_
        refine ev_istore_n (lv' := [(3, .int ((fo k (fun ch x => cmF (σ 1) (σ 3) (σ 6) s ch x) (jbc (net (σ 1) s) + nI (cu (σ 2) (net (σ 1) s)))) + ((jbc (un (σ 3) (net (σ 1) s) k)) + (jbc (σ 6 (s * 4 + k)))))), (5, .int (jbc (un (σ 3) (net (σ 1) s) k))), (0, .ref 0), (1, .int (nI s)), (2, .int (net (σ 1) s)), (4, .int (nI k))]) dX4_countMessages_58 rfl (by decide) rfl ?_
        refine ev_iinc (lv' := [(4, .int (nI (k + 1))), (3, .int ((fo k (fun ch x => cmF (σ 1) (σ 3) (σ 6) s ch x) (jbc (net (σ 1) s) + nI (cu (σ 2) (net (σ 1) s)))) + ((jbc (un (σ 3) (net (σ 1) s) k)) + (jbc (σ 6 (s * 4 + k)))))), (5, .int (jbc (un (σ 3) (net (σ 1) s) k))), (0, .ref 0), (1, .int (nI s)), (2, .int (net (σ 1) s))]) dX4_countMessages_59 5 rfl (nI_inc k) (by decide) rfl ?_
        refine ev_goto (tgt := 20) dX4_countMessages_62 (by decide) ?_
        refine ev_lv (lv' := [(0, .ref 0), (1, .int (nI s)), (2, .int (net (σ 1) s)), (3, .int ((fo k (fun ch x => cmF (σ 1) (σ 3) (σ 6) s ch x) (jbc (net (σ 1) s) + nI (cu (σ 2) (net (σ 1) s)))) + ((jbc (un (σ 3) (net (σ 1) s) k)) + (jbc (σ 6 (s * 4 + k)))))), (4, .int (nI (k + 1)))]) [3, 4, 5, 1, 0] rfl ?_
        have ih9 : av_Ev l RX4 cX4_countMessages 6 (some .int) av_E0 3 20 [(0, .ref 0), (1, .int (nI s)), (2, .int (net (σ 1) s)), (3, .int (fo (k + 1) (fun ch x => cmF (σ 1) (σ 3) (σ 6) s ch x) (jbc (net (σ 1) s) + nI (cu (σ 2) (net (σ 1) s))))), (4, .int (nI (k + 1)))] [] σ Q := ihk
        rw [show fo (k + 1) (fun ch x => cmF (σ 1) (σ 3) (σ 6) s ch x) (jbc (net (σ 1) s) + nI (cu (σ 2) (net (σ 1) s))) = (fo k (fun ch x => cmF (σ 1) (σ 3) (σ 6) s ch x) (jbc (net (σ 1) s) + nI (cu (σ 2) (net (σ 1) s)))) + ((jbc (un (σ 3) (net (σ 1) s) k)) + (jbc (σ 6 (s * 4 + k)))) from (by rw [fo_s]; simp [cmF, h23, h40])] at ih9
        exact ih9
end
section
/-! ===== History and Merge: contracts ===== -/
theorem cpS_raw {σ : av_S} {a b : Nat} (hab : a ≠ b) : av_set (av_set (av_set (av_set (av_set (av_set (av_set σ (7 * a) (upd (upd (upd (upd (σ (7 * a)) 0 ((σ (7 * b)) 0)) 1 ((σ (7 * b)) 1)) 2 ((σ (7 * b)) 2)) 3 ((σ (7 * b)) 3))) (7 * a + 1) (va_cpy (σ (7 * b + 1)) (σ (7 * a + 1)) 0 0 6)) (7 * a + 2) (va_cpy (σ (7 * b + 2)) (σ (7 * a + 2)) 0 0 60)) (7 * a + 3) (va_cpy (σ (7 * b + 3)) (σ (7 * a + 3)) 0 0 24)) (7 * a + 4) (va_cpy (σ (7 * b + 4)) (σ (7 * a + 4)) 0 0 24)) (7 * a + 5) (va_cpy (σ (7 * b + 5)) (σ (7 * a + 5)) 0 0 24)) (7 * a + 6) (va_cpy (σ (7 * b + 6)) (σ (7 * a + 6)) 0 0 24) = cpS σ a b := by
  funext c
  unfold cpS
  by_cases hc : 7 * a ≤ c ∧ c < 7 * a + 7
  · rw [if_pos hc]
    obtain ⟨r, hr, rfl⟩ : ∃ r, r < 7 ∧ c = 7 * a + r := ⟨c - 7 * a, by omega, by omega⟩
    rw [show 7 * a + r - 7 * a = r by omega]
    unfold av_set
    match r, hr with
    | 0, _ =>
      rw [if_neg (by omega), if_neg (by omega), if_neg (by omega), if_neg (by omega), if_neg (by omega), if_neg (by omega), if_pos (by omega)]
      funext i
      simp only [upd, cpN, Nat.add_zero, if_true]
      by_cases h3 : i = 3
      · subst h3; rfl
      · by_cases h2 : i = 2
        · subst h2; rfl
        · by_cases h1 : i = 1
          · subst h1; rfl
          · by_cases h0 : i = 0
            · subst h0; rfl
            · simp [h0, h1, h2, h3]; intro; omega
    | 1, _ => rw [if_neg (by omega), if_neg (by omega), if_neg (by omega), if_neg (by omega), if_neg (by omega), if_pos (by omega)]; funext i; simp [va_cpy, cpN]
    | 2, _ => rw [if_neg (by omega), if_neg (by omega), if_neg (by omega), if_neg (by omega), if_pos (by omega)]; funext i; simp [va_cpy, cpN]
    | 3, _ => rw [if_neg (by omega), if_neg (by omega), if_neg (by omega), if_pos (by omega)]; funext i; simp [va_cpy, cpN]
    | 4, _ => rw [if_neg (by omega), if_neg (by omega), if_pos (by omega)]; funext i; simp [va_cpy, cpN]
    | 5, _ => rw [if_neg (by omega), if_pos (by omega)]; funext i; simp [va_cpy, cpN]
    | 6, _ => rw [if_pos (by omega)]; funext i; simp [va_cpy, cpN]
    | r + 7, h => exact absurd h (by omega)
  · rw [if_neg hc]
    unfold av_set
    rw [if_neg (by omega), if_neg (by omega), if_neg (by omega), if_neg (by omega), if_neg (by omega), if_neg (by omega), if_neg (by omega)]
set_option maxRecDepth 100000 in
set_option maxHeartbeats 1000000 in
theorem c_X4_copyFrom {l : Launch} {σ : av_S} (a : Nat) (b : Nat) (ha : a < 9) (hb : b < 9) (hab : a ≠ b) : av_M l RX4 cX4_copyFrom 2 none 1 [.ref (7 * a), .ref (7 * b)] σ none (cpS σ a b) := by
  intro Q hQ
  show av_Ev l RX4 cX4_copyFrom 2 none av_E0 1 0 [(0, .ref (7 * a)), (1, .ref (7 * b))] [] σ Q
  refine ev_aload_n dX4_copyFrom_0 rfl 0 rfl ?_
  refine ev_aload_n dX4_copyFrom_1 rfl 1 rfl ?_
  refine ev_getI dX4_copyFrom_2 C_X4 L_X4_9 (by decide) (by omega) (sh_st (j := b) (by omega)) rfl ?_
  refine ev_putI dX4_copyFrom_5 C_X4 L_X4_9 (by decide) (by omega) (sh_st (j := a) (by omega)) rfl rfl rfl ?_
  refine ev_aload_n dX4_copyFrom_8 rfl 0 rfl ?_
  refine ev_aload_n dX4_copyFrom_9 rfl 1 rfl ?_
  refine ev_getI dX4_copyFrom_10 C_X4 L_X4_15 (by decide) (by omega) (sh_st (j := b) (by omega)) rfl ?_
  refine ev_top (v := (σ (7 * b)) 1) (by first | rfl | (simp only [av_set, cpS]; (repeat' split) <;> first | rfl | (exfalso; omega))) ?_
  refine ev_putI dX4_copyFrom_13 C_X4 L_X4_15 (by decide) (by omega) (sh_st (j := a) (by omega)) rfl rfl rfl ?_
  refine ev_st (σ' := av_set σ (7 * a) (upd (upd (σ (7 * a)) 0 ((σ (7 * b)) 0)) 1 ((σ (7 * b)) 1))) (by first | rfl | exact av_set_set _ _ _ _ | (funext a; unfold av_set; (repeat' split) <;> first | rfl | (exfalso; omega)) | (funext a; simp only [av_set, cpS]; (repeat' split) <;> first | rfl | (exfalso; omega))) ?_
  refine ev_aload_n dX4_copyFrom_16 rfl 0 rfl ?_
  refine ev_aload_n dX4_copyFrom_17 rfl 1 rfl ?_
  refine ev_getI dX4_copyFrom_18 C_X4 L_X4_18 (by decide) (by omega) (sh_st (j := b) (by omega)) rfl ?_
  refine ev_top (v := (σ (7 * b)) 2) (by first | rfl | (simp only [av_set, cpS]; (repeat' split) <;> first | rfl | (exfalso; omega))) ?_
  refine ev_putI dX4_copyFrom_21 C_X4 L_X4_18 (by decide) (by omega) (sh_st (j := a) (by omega)) rfl rfl rfl ?_
  refine ev_st (σ' := av_set σ (7 * a) (upd (upd (upd (σ (7 * a)) 0 ((σ (7 * b)) 0)) 1 ((σ (7 * b)) 1)) 2 ((σ (7 * b)) 2))) (by first | rfl | exact av_set_set _ _ _ _ | (funext a; unfold av_set; (repeat' split) <;> first | rfl | (exfalso; omega)) | (funext a; simp only [av_set, cpS]; (repeat' split) <;> first | rfl | (exfalso; omega))) ?_
  refine ev_aload_n dX4_copyFrom_24 rfl 0 rfl ?_
  refine ev_aload_n dX4_copyFrom_25 rfl 1 rfl ?_
  refine ev_getI dX4_copyFrom_26 C_X4 L_X4_21 (by decide) (by omega) (sh_st (j := b) (by omega)) rfl ?_
  refine ev_top (v := (σ (7 * b)) 3) (by first | rfl | (simp only [av_set, cpS]; (repeat' split) <;> first | rfl | (exfalso; omega))) ?_
  refine ev_putI dX4_copyFrom_29 C_X4 L_X4_21 (by decide) (by omega) (sh_st (j := a) (by omega)) rfl rfl rfl ?_
  refine ev_st (σ' := av_set σ (7 * a) (upd (upd (upd (upd (σ (7 * a)) 0 ((σ (7 * b)) 0)) 1 ((σ (7 * b)) 1)) 2 ((σ (7 * b)) 2)) 3 ((σ (7 * b)) 3))) (by first | rfl | exact av_set_set _ _ _ _ | (funext a; unfold av_set; (repeat' split) <;> first | rfl | (exfalso; omega)) | (funext a; simp only [av_set, cpS]; (repeat' split) <;> first | rfl | (exfalso; omega))) ?_
  refine ev_aload_n dX4_copyFrom_32 rfl 1 rfl ?_
  refine ev_getR dX4_copyFrom_33 C_X4 L_X4_24 (by decide) (by omega) (sh_st (j := b) (by omega)) rfl ?_
  refine ev_iconst dX4_copyFrom_36 (v := nI 0) (by decide) ?_
  refine ev_aload_n dX4_copyFrom_37 rfl 0 rfl ?_
  refine ev_getR dX4_copyFrom_38 C_X4 L_X4_24 (by decide) (by omega) (sh_st (j := a) (by omega)) rfl ?_
  refine ev_iconst dX4_copyFrom_41 (v := nI 0) (by decide) ?_
  refine ev_bipush dX4_copyFrom_42 (v := nI 6) (by decide) ?_
  refine ev_arraycopy dX4_copyFrom_44 M_X4_49 W_acopy (by decide) (Nat.le_of_ble_eq_true rfl) (by omega) (by omega) (sh_st1 (j := b) (by omega)) (sh_st1 (j := a) (by omega)) (nI_pos (by omega)) (nI_pos (by omega)) (nI_pos (by omega)) (by rw [nI_clamp (by omega), nI_clamp (by omega)]; omega) (by rw [nI_clamp (by omega), nI_clamp (by omega)]; omega) ?_
  rw [nI_clamp (show 0 < 2 ^ 31 by omega), nI_clamp (show 6 < 2 ^ 31 by omega)]
  refine ev_st (σ' := av_set (av_set σ (7 * a) (upd (upd (upd (upd (σ (7 * a)) 0 ((σ (7 * b)) 0)) 1 ((σ (7 * b)) 1)) 2 ((σ (7 * b)) 2)) 3 ((σ (7 * b)) 3))) (7 * a + 1) (va_cpy (σ (7 * b + 1)) (σ (7 * a + 1)) 0 0 6)) (by first | rfl | exact av_set_set _ _ _ _ | (funext a; unfold av_set; (repeat' split) <;> first | rfl | (exfalso; omega)) | (funext a; simp only [av_set, cpS]; (repeat' split) <;> first | rfl | (exfalso; omega))) ?_
  refine ev_aload_n dX4_copyFrom_47 rfl 1 rfl ?_
  refine ev_getR dX4_copyFrom_48 C_X4 L_X4_28 (by decide) (by omega) (sh_st (j := b) (by omega)) rfl ?_
  refine ev_iconst dX4_copyFrom_51 (v := nI 0) (by decide) ?_
  refine ev_aload_n dX4_copyFrom_52 rfl 0 rfl ?_
  refine ev_getR dX4_copyFrom_53 C_X4 L_X4_28 (by decide) (by omega) (sh_st (j := a) (by omega)) rfl ?_
  refine ev_iconst dX4_copyFrom_56 (v := nI 0) (by decide) ?_
  refine ev_bipush dX4_copyFrom_57 (v := nI 60) (by decide) ?_
  refine ev_arraycopy dX4_copyFrom_59 M_X4_49 W_acopy (by decide) (Nat.le_of_ble_eq_true rfl) (by omega) (by omega) (sh_st2 (j := b) (by omega)) (sh_st2 (j := a) (by omega)) (nI_pos (by omega)) (nI_pos (by omega)) (nI_pos (by omega)) (by rw [nI_clamp (by omega), nI_clamp (by omega)]; omega) (by rw [nI_clamp (by omega), nI_clamp (by omega)]; omega) ?_
  rw [nI_clamp (show 0 < 2 ^ 31 by omega), nI_clamp (show 60 < 2 ^ 31 by omega)]
  refine ev_st (σ' := av_set (av_set (av_set σ (7 * a) (upd (upd (upd (upd (σ (7 * a)) 0 ((σ (7 * b)) 0)) 1 ((σ (7 * b)) 1)) 2 ((σ (7 * b)) 2)) 3 ((σ (7 * b)) 3))) (7 * a + 1) (va_cpy (σ (7 * b + 1)) (σ (7 * a + 1)) 0 0 6)) (7 * a + 2) (va_cpy (σ (7 * b + 2)) (σ (7 * a + 2)) 0 0 60)) (by first | rfl | exact av_set_set _ _ _ _ | (funext a; unfold av_set; (repeat' split) <;> first | rfl | (exfalso; omega)) | (funext a; simp only [av_set, cpS]; (repeat' split) <;> first | rfl | (exfalso; omega))) ?_
  refine ev_aload_n dX4_copyFrom_62 rfl 1 rfl ?_
  refine ev_getR dX4_copyFrom_63 C_X4 L_X4_31 (by decide) (by omega) (sh_st (j := b) (by omega)) rfl ?_
  refine ev_iconst dX4_copyFrom_66 (v := nI 0) (by decide) ?_
  refine ev_aload_n dX4_copyFrom_67 rfl 0 rfl ?_
  refine ev_getR dX4_copyFrom_68 C_X4 L_X4_31 (by decide) (by omega) (sh_st (j := a) (by omega)) rfl ?_
  refine ev_iconst dX4_copyFrom_71 (v := nI 0) (by decide) ?_
  refine ev_bipush dX4_copyFrom_72 (v := nI 24) (by decide) ?_
  refine ev_arraycopy dX4_copyFrom_74 M_X4_49 W_acopy (by decide) (Nat.le_of_ble_eq_true rfl) (by omega) (by omega) (sh_st3 (j := b) (by omega)) (sh_st3 (j := a) (by omega)) (nI_pos (by omega)) (nI_pos (by omega)) (nI_pos (by omega)) (by rw [nI_clamp (by omega), nI_clamp (by omega)]; omega) (by rw [nI_clamp (by omega), nI_clamp (by omega)]; omega) ?_
  rw [nI_clamp (show 0 < 2 ^ 31 by omega), nI_clamp (show 24 < 2 ^ 31 by omega)]
  refine ev_st (σ' := av_set (av_set (av_set (av_set σ (7 * a) (upd (upd (upd (upd (σ (7 * a)) 0 ((σ (7 * b)) 0)) 1 ((σ (7 * b)) 1)) 2 ((σ (7 * b)) 2)) 3 ((σ (7 * b)) 3))) (7 * a + 1) (va_cpy (σ (7 * b + 1)) (σ (7 * a + 1)) 0 0 6)) (7 * a + 2) (va_cpy (σ (7 * b + 2)) (σ (7 * a + 2)) 0 0 60)) (7 * a + 3) (va_cpy (σ (7 * b + 3)) (σ (7 * a + 3)) 0 0 24)) (by first | rfl | exact av_set_set _ _ _ _ | (funext a; unfold av_set; (repeat' split) <;> first | rfl | (exfalso; omega)) | (funext a; simp only [av_set, cpS]; (repeat' split) <;> first | rfl | (exfalso; omega))) ?_
  refine ev_aload_n dX4_copyFrom_77 rfl 1 rfl ?_
  refine ev_getR dX4_copyFrom_78 C_X4 L_X4_34 (by decide) (by omega) (sh_st (j := b) (by omega)) rfl ?_
  refine ev_iconst dX4_copyFrom_81 (v := nI 0) (by decide) ?_
  refine ev_aload_n dX4_copyFrom_82 rfl 0 rfl ?_
  refine ev_getR dX4_copyFrom_83 C_X4 L_X4_34 (by decide) (by omega) (sh_st (j := a) (by omega)) rfl ?_
  refine ev_iconst dX4_copyFrom_86 (v := nI 0) (by decide) ?_
  refine ev_bipush dX4_copyFrom_87 (v := nI 24) (by decide) ?_
  refine ev_arraycopy dX4_copyFrom_89 M_X4_49 W_acopy (by decide) (Nat.le_of_ble_eq_true rfl) (by omega) (by omega) (sh_st4 (j := b) (by omega)) (sh_st4 (j := a) (by omega)) (nI_pos (by omega)) (nI_pos (by omega)) (nI_pos (by omega)) (by rw [nI_clamp (by omega), nI_clamp (by omega)]; omega) (by rw [nI_clamp (by omega), nI_clamp (by omega)]; omega) ?_
  rw [nI_clamp (show 0 < 2 ^ 31 by omega), nI_clamp (show 24 < 2 ^ 31 by omega)]
  refine ev_st (σ' := av_set (av_set (av_set (av_set (av_set σ (7 * a) (upd (upd (upd (upd (σ (7 * a)) 0 ((σ (7 * b)) 0)) 1 ((σ (7 * b)) 1)) 2 ((σ (7 * b)) 2)) 3 ((σ (7 * b)) 3))) (7 * a + 1) (va_cpy (σ (7 * b + 1)) (σ (7 * a + 1)) 0 0 6)) (7 * a + 2) (va_cpy (σ (7 * b + 2)) (σ (7 * a + 2)) 0 0 60)) (7 * a + 3) (va_cpy (σ (7 * b + 3)) (σ (7 * a + 3)) 0 0 24)) (7 * a + 4) (va_cpy (σ (7 * b + 4)) (σ (7 * a + 4)) 0 0 24)) (by first | rfl | exact av_set_set _ _ _ _ | (funext a; unfold av_set; (repeat' split) <;> first | rfl | (exfalso; omega)) | (funext a; simp only [av_set, cpS]; (repeat' split) <;> first | rfl | (exfalso; omega))) ?_
  refine ev_aload_n dX4_copyFrom_92 rfl 1 rfl ?_
  refine ev_getR dX4_copyFrom_93 C_X4 L_X4_37 (by decide) (by omega) (sh_st (j := b) (by omega)) rfl ?_
  refine ev_iconst dX4_copyFrom_96 (v := nI 0) (by decide) ?_
  refine ev_aload_n dX4_copyFrom_97 rfl 0 rfl ?_
  refine ev_getR dX4_copyFrom_98 C_X4 L_X4_37 (by decide) (by omega) (sh_st (j := a) (by omega)) rfl ?_
  refine ev_iconst dX4_copyFrom_101 (v := nI 0) (by decide) ?_
  refine ev_bipush dX4_copyFrom_102 (v := nI 24) (by decide) ?_
  refine ev_arraycopy dX4_copyFrom_104 M_X4_49 W_acopy (by decide) (Nat.le_of_ble_eq_true rfl) (by omega) (by omega) (sh_st5 (j := b) (by omega)) (sh_st5 (j := a) (by omega)) (nI_pos (by omega)) (nI_pos (by omega)) (nI_pos (by omega)) (by rw [nI_clamp (by omega), nI_clamp (by omega)]; omega) (by rw [nI_clamp (by omega), nI_clamp (by omega)]; omega) ?_
  rw [nI_clamp (show 0 < 2 ^ 31 by omega), nI_clamp (show 24 < 2 ^ 31 by omega)]
  refine ev_st (σ' := av_set (av_set (av_set (av_set (av_set (av_set σ (7 * a) (upd (upd (upd (upd (σ (7 * a)) 0 ((σ (7 * b)) 0)) 1 ((σ (7 * b)) 1)) 2 ((σ (7 * b)) 2)) 3 ((σ (7 * b)) 3))) (7 * a + 1) (va_cpy (σ (7 * b + 1)) (σ (7 * a + 1)) 0 0 6)) (7 * a + 2) (va_cpy (σ (7 * b + 2)) (σ (7 * a + 2)) 0 0 60)) (7 * a + 3) (va_cpy (σ (7 * b + 3)) (σ (7 * a + 3)) 0 0 24)) (7 * a + 4) (va_cpy (σ (7 * b + 4)) (σ (7 * a + 4)) 0 0 24)) (7 * a + 5) (va_cpy (σ (7 * b + 5)) (σ (7 * a + 5)) 0 0 24)) (by first | rfl | exact av_set_set _ _ _ _ | (funext a; unfold av_set; (repeat' split) <;> first | rfl | (exfalso; omega)) | (funext a; simp only [av_set, cpS]; (repeat' split) <;> first | rfl | (exfalso; omega))) ?_
  refine ev_aload_n dX4_copyFrom_107 rfl 1 rfl ?_
  refine ev_getR dX4_copyFrom_108 C_X4 L_X4_40 (by decide) (by omega) (sh_st (j := b) (by omega)) rfl ?_
  refine ev_iconst dX4_copyFrom_111 (v := nI 0) (by decide) ?_
  refine ev_aload_n dX4_copyFrom_112 rfl 0 rfl ?_
  refine ev_getR dX4_copyFrom_113 C_X4 L_X4_40 (by decide) (by omega) (sh_st (j := a) (by omega)) rfl ?_
  refine ev_iconst dX4_copyFrom_116 (v := nI 0) (by decide) ?_
  refine ev_bipush dX4_copyFrom_117 (v := nI 24) (by decide) ?_
  refine ev_arraycopy dX4_copyFrom_119 M_X4_49 W_acopy (by decide) (Nat.le_of_ble_eq_true rfl) (by omega) (by omega) (sh_st6 (j := b) (by omega)) (sh_st6 (j := a) (by omega)) (nI_pos (by omega)) (nI_pos (by omega)) (nI_pos (by omega)) (by rw [nI_clamp (by omega), nI_clamp (by omega)]; omega) (by rw [nI_clamp (by omega), nI_clamp (by omega)]; omega) ?_
  rw [nI_clamp (show 0 < 2 ^ 31 by omega), nI_clamp (show 24 < 2 ^ 31 by omega)]
  refine ev_st (σ' := av_set (av_set (av_set (av_set (av_set (av_set (av_set σ (7 * a) (upd (upd (upd (upd (σ (7 * a)) 0 ((σ (7 * b)) 0)) 1 ((σ (7 * b)) 1)) 2 ((σ (7 * b)) 2)) 3 ((σ (7 * b)) 3))) (7 * a + 1) (va_cpy (σ (7 * b + 1)) (σ (7 * a + 1)) 0 0 6)) (7 * a + 2) (va_cpy (σ (7 * b + 2)) (σ (7 * a + 2)) 0 0 60)) (7 * a + 3) (va_cpy (σ (7 * b + 3)) (σ (7 * a + 3)) 0 0 24)) (7 * a + 4) (va_cpy (σ (7 * b + 4)) (σ (7 * a + 4)) 0 0 24)) (7 * a + 5) (va_cpy (σ (7 * b + 5)) (σ (7 * a + 5)) 0 0 24)) (7 * a + 6) (va_cpy (σ (7 * b + 6)) (σ (7 * a + 6)) 0 0 24)) (by first | rfl | exact av_set_set _ _ _ _ | (funext a; unfold av_set; (repeat' split) <;> first | rfl | (exfalso; omega)) | (funext a; simp only [av_set, cpS]; (repeat' split) <;> first | rfl | (exfalso; omega))) ?_
  exact ev_return dX4_copyFrom_122 rfl (leafV hQ (cpS_raw hab))

set_option maxRecDepth 100000 in
set_option maxHeartbeats 1000000 in
theorem c_X0_keep {l : Launch} {σ : av_S} (j : Nat) (c : Nat) (hj : σ 64 1 = nI j) (hj8 : j < 8) (hc : σ 64 2 = nI c) (hc8 : c ≤ 8) : av_M l RX0 cX0_keep 3 none 2 [.ref 64, .ref 0] σ none (hkeep σ j c) := by
  intro Q hQ
  show av_Ev l RX0 cX0_keep 3 none av_E0 2 0 [(0, .ref 64), (1, .ref 0)] [] σ Q
  refine ev_aload_n dX0_keep_0 rfl 0 rfl ?_
  refine ev_getR dX0_keep_1 C_X0 L_X0_11 (by decide) (by decide) sh_64 rfl ?_
  refine ev_aload_n dX0_keep_4 rfl 0 rfl ?_
  refine ev_getI dX0_keep_5 C_X0 L_X0_17 (by decide) (by decide) sh_64 rfl ?_
  refine ev_top (v := nI j) hj ?_
  refine ev_aald (e := j) (r := 7 * (j + 1)) dX0_keep_8 (by decide) sh_65 (by decide) (by omega) (by decide) (by first | rfl | (show _ = _; omega)) ?_
  refine ev_astore_n (lv' := [(2, .ref (7 * (j + 1))), (0, .ref 64), (1, .ref 0)]) dX0_keep_9 rfl (by decide) rfl ?_
  refine ev_aload_n dX0_keep_10 rfl 0 rfl ?_
  refine ev_ifnull dX0_keep_11 ?_
  refine ev_aload_n dX0_keep_14 rfl 0 rfl ?_
  refine ev_aload_n dX0_keep_15 rfl 2 rfl ?_
  refine ev_callVv (σ' := cpS σ (j + 1) 0) dX0_keep_16 M_X0_25 Y_X4_copyFrom [.ref 0] (c_X4_copyFrom (j + 1) 0 (by omega) (by omega) (by omega)) (by decide) (Nat.le_of_ble_eq_true rfl) (by omega) (sh_st (j := (j + 1)) (by omega)) rfl rfl rfl (Nat.le_of_ble_eq_true rfl) ?_
  refine ev_aload_n dX0_keep_19 rfl 1 rfl ?_
  refine ev_aload_n dX0_keep_20 rfl 1 rfl ?_
  refine ev_getI dX0_keep_21 C_X0 L_X0_17 (by decide) (by decide) sh_64 rfl ?_
  refine ev_top (v := σ 64 1) (by first | rfl | (simp only [av_set, cpS]; (repeat' split) <;> first | rfl | (exfalso; omega))) ?_
  refine ev_top (v := nI j) hj ?_
  refine ev_bipush dX0_keep_24 (v := nI 7) (by decide) ?_
  refine ev_ncmp_ne (tgt := 33) dX0_keep_26 (by decide) (by omega) (by omega) (fun h26 => ?_) (fun h26 => ?_)
  · refine ev_aload_n dX0_keep_33 rfl 1 rfl ?_
    refine ev_getI dX0_keep_34 C_X0 L_X0_17 (by decide) (by decide) sh_64 rfl ?_
    refine ev_top (v := σ 64 1) (by first | rfl | (simp only [av_set, cpS]; (repeat' split) <;> first | rfl | (exfalso; omega))) ?_
    refine ev_top (v := nI j) hj ?_
    refine ev_iconst dX0_keep_37 (v := nI 1) (by decide) ?_
    refine ev_iadd dX0_keep_38 ?_
    refine ev_top (v := nI (j + 1)) (nI_add _ _) ?_
    refine ev_putI dX0_keep_39 C_X0 L_X0_17 (by decide) (by decide) sh_64 rfl rfl rfl ?_
    refine ev_st (σ' := av_set (cpS σ (j + 1) 0) 64 (upd (σ 64) 1 (nI (j + 1)))) (by first | rfl | exact av_set_set _ _ _ _ | (funext a; unfold av_set; (repeat' split) <;> first | rfl | (exfalso; omega)) | (funext a; simp only [av_set, cpS]; (repeat' split) <;> first | rfl | (exfalso; omega))) ?_
    refine ev_aload_n dX0_keep_42 rfl 1 rfl ?_
    refine ev_aload_n dX0_keep_43 rfl 1 rfl ?_
    refine ev_getI dX0_keep_44 C_X0 L_X0_21 (by decide) (by decide) sh_64 rfl ?_
    refine ev_top (v := σ 64 2) (by first | rfl | (simp only [av_set, cpS]; (repeat' split) <;> first | rfl | (exfalso; omega))) ?_
    refine ev_top (v := nI c) hc ?_
    refine ev_iconst dX0_keep_47 (v := nI 1) (by decide) ?_
    refine ev_iadd dX0_keep_48 ?_
    refine ev_top (v := nI (c + 1)) (nI_add _ _) ?_
    refine ev_bipush dX0_keep_49 (v := nI 8) (by decide) ?_
    refine ev_min (v := nI (min (c + 1) 8)) dX0_keep_51 M_X0_29 (by decide) (Nat.le_of_ble_eq_true rfl) (nI_min (by omega) (by omega)) ?_
    refine ev_putI dX0_keep_54 C_X0 L_X0_21 (by decide) (by decide) sh_64 rfl rfl rfl ?_
    refine ev_st (σ' := av_set (cpS σ (j + 1) 0) 64 (upd (upd (σ 64) 1 (nI (j + 1))) 2 (nI (min (c + 1) 8)))) (by first | rfl | exact av_set_set _ _ _ _ | (funext a; unfold av_set; (repeat' split) <;> first | rfl | (exfalso; omega)) | (funext a; simp only [av_set, cpS]; (repeat' split) <;> first | rfl | (exfalso; omega))) ?_
    exact ev_return dX0_keep_57 rfl (leafV hQ (by rw [← hkeep_raw hj8]; simp [nxt, h26]))
  · refine ev_iconst dX0_keep_29 (v := nI 0) (by decide) ?_
    refine ev_goto (tgt := 39) dX0_keep_30 (by decide) ?_
    refine ev_putI dX0_keep_39 C_X0 L_X0_17 (by decide) (by decide) sh_64 rfl rfl rfl ?_
    refine ev_st (σ' := av_set (cpS σ (j + 1) 0) 64 (upd (σ 64) 1 (nI 0))) (by first | rfl | exact av_set_set _ _ _ _ | (funext a; unfold av_set; (repeat' split) <;> first | rfl | (exfalso; omega)) | (funext a; simp only [av_set, cpS]; (repeat' split) <;> first | rfl | (exfalso; omega))) ?_
    refine ev_aload_n dX0_keep_42 rfl 1 rfl ?_
    refine ev_aload_n dX0_keep_43 rfl 1 rfl ?_
    refine ev_getI dX0_keep_44 C_X0 L_X0_21 (by decide) (by decide) sh_64 rfl ?_
    refine ev_top (v := σ 64 2) (by first | rfl | (simp only [av_set, cpS]; (repeat' split) <;> first | rfl | (exfalso; omega))) ?_
    refine ev_top (v := nI c) hc ?_
    refine ev_iconst dX0_keep_47 (v := nI 1) (by decide) ?_
    refine ev_iadd dX0_keep_48 ?_
    refine ev_top (v := nI (c + 1)) (nI_add _ _) ?_
    refine ev_bipush dX0_keep_49 (v := nI 8) (by decide) ?_
    refine ev_min (v := nI (min (c + 1) 8)) dX0_keep_51 M_X0_29 (by decide) (Nat.le_of_ble_eq_true rfl) (nI_min (by omega) (by omega)) ?_
    refine ev_putI dX0_keep_54 C_X0 L_X0_21 (by decide) (by decide) sh_64 rfl rfl rfl ?_
    refine ev_st (σ' := av_set (cpS σ (j + 1) 0) 64 (upd (upd (σ 64) 1 (nI 0)) 2 (nI (min (c + 1) 8)))) (by first | rfl | exact av_set_set _ _ _ _ | (funext a; unfold av_set; (repeat' split) <;> first | rfl | (exfalso; omega)) | (funext a; simp only [av_set, cpS]; (repeat' split) <;> first | rfl | (exfalso; omega))) ?_
    exact ev_return dX0_keep_57 rfl (leafV hQ (by rw [← hkeep_raw hj8]; simp [nxt, h26]))

set_option maxRecDepth 100000 in
set_option maxHeartbeats 1000000 in
theorem c_X0_takeBack {l : Launch} {σ : av_S} (j : Nat) (c : Nat) (hj : σ 64 1 = nI j) (hj8 : j < 8) (hc : σ 64 2 = nI c) (hc1 : 1 ≤ c) (hc8 : c ≤ 8) : av_M l RX0 cX0_takeBack 3 none 2 [.ref 64, .ref 0] σ none (htake σ j c) := by
  intro Q hQ
  show av_Ev l RX0 cX0_takeBack 3 none av_E0 2 0 [(0, .ref 64), (1, .ref 0)] [] σ Q
  refine ev_aload_n dX0_takeBack_0 rfl 0 rfl ?_
  refine ev_aload_n dX0_takeBack_1 rfl 0 rfl ?_
  refine ev_getI dX0_takeBack_2 C_X0 L_X0_17 (by decide) (by decide) sh_64 rfl ?_
  refine ev_top (v := nI j) hj ?_
  refine ev_nif_ne (tgt := 13) dX0_takeBack_5 (by decide) (by omega) (fun h5 => ?_) (fun h5 => ?_)
  · refine ev_aload_n dX0_takeBack_13 rfl 0 rfl ?_
    refine ev_getI dX0_takeBack_14 C_X0 L_X0_17 (by decide) (by decide) sh_64 rfl ?_
    refine ev_top (v := nI j) hj ?_
    refine ev_iconst dX0_takeBack_17 (v := nI 1) (by decide) ?_
    refine ev_isub dX0_takeBack_18 ?_
    refine ev_top (v := nI (j - 1)) (pk_sub (by omega)) ?_
    refine ev_putI dX0_takeBack_19 C_X0 L_X0_17 (by decide) (by decide) sh_64 rfl rfl rfl ?_
    refine ev_aload_n dX0_takeBack_22 rfl 0 rfl ?_
    refine ev_aload_n dX0_takeBack_23 rfl 0 rfl ?_
    refine ev_getI dX0_takeBack_24 C_X0 L_X0_21 (by decide) (by decide) sh_64 rfl ?_
    refine ev_top (v := σ 64 2) (by first | rfl | (simp only [av_set, cpS]; (repeat' split) <;> first | rfl | (exfalso; omega))) ?_
    refine ev_top (v := nI c) hc ?_
    refine ev_iconst dX0_takeBack_27 (v := nI 1) (by decide) ?_
    refine ev_isub dX0_takeBack_28 ?_
    refine ev_top (v := nI (c - 1)) (pk_sub (by omega)) ?_
    refine ev_iconst dX0_takeBack_29 (v := nI 0) (by decide) ?_
    refine ev_max (v := nI (c - 1)) dX0_takeBack_30 M_X0_35 (by decide) (Nat.le_of_ble_eq_true rfl) ((nI_max (by omega) (by omega)).trans (by rw [Nat.max_eq_left (by omega)])) ?_
    refine ev_putI dX0_takeBack_33 C_X0 L_X0_21 (by decide) (by decide) sh_64 rfl rfl rfl ?_
    refine ev_st (σ' := av_set σ 64 (upd (upd (σ 64) 1 (nI (j - 1))) 2 (nI (c - 1)))) (by first | rfl | exact av_set_set _ _ _ _ | (funext a; unfold av_set; (repeat' split) <;> first | rfl | (exfalso; omega)) | (funext a; simp only [av_set, cpS]; (repeat' split) <;> first | rfl | (exfalso; omega))) ?_
    refine ev_aload_n dX0_takeBack_36 rfl 0 rfl ?_
    refine ev_getR dX0_takeBack_37 C_X0 L_X0_11 (by decide) (by decide) sh_64 rfl ?_
    refine ev_aload_n dX0_takeBack_40 rfl 0 rfl ?_
    refine ev_getI dX0_takeBack_41 C_X0 L_X0_17 (by decide) (by decide) sh_64 rfl ?_
    refine ev_top (v := nI (j - 1)) (by first | rfl | (simp only [av_set, cpS]; (repeat' split) <;> first | rfl | (exfalso; omega))) ?_
    refine ev_aald (e := j - 1) (r := 7 * j) dX0_takeBack_44 (by decide) sh_65 (by decide) (by omega) (by decide) (by first | rfl | (show _ = _; omega)) ?_
    refine ev_astore_n (lv' := [(2, .ref (7 * j)), (0, .ref 64), (1, .ref 0)]) dX0_takeBack_45 rfl (by decide) rfl ?_
    refine ev_aload_n dX0_takeBack_46 rfl 0 rfl ?_
    refine ev_ifnull dX0_takeBack_47 ?_
    refine ev_aload_n dX0_takeBack_50 rfl 2 rfl ?_
    refine ev_aload_n dX0_takeBack_51 rfl 0 rfl ?_
    refine ev_callVv (σ' := cpS (av_set σ 64 (upd (upd (σ 64) 1 (nI (j - 1))) 2 (nI (c - 1)))) 0 j) dX0_takeBack_52 M_X0_25 Y_X4_copyFrom [.ref (7 * j)] (c_X4_copyFrom 0 j (by omega) (by omega) (by omega)) (by decide) (Nat.le_of_ble_eq_true rfl) (by decide) sh_0 rfl rfl rfl (Nat.le_of_ble_eq_true rfl) ?_
    exact ev_return dX0_takeBack_55 rfl (leafV hQ (by first | (rw [← htake_raw hj8, show prv j = 7 by unfold prv; rw [if_pos h5]]) | (rw [← htake_raw hj8, show prv j = j - 1 by unfold prv; rw [if_neg h5], show j - 1 + 1 = j by omega])))
  · refine ev_bipush dX0_takeBack_8 (v := nI 7) (by decide) ?_
    refine ev_goto (tgt := 19) dX0_takeBack_10 (by decide) ?_
    refine ev_putI dX0_takeBack_19 C_X0 L_X0_17 (by decide) (by decide) sh_64 rfl rfl rfl ?_
    refine ev_aload_n dX0_takeBack_22 rfl 0 rfl ?_
    refine ev_aload_n dX0_takeBack_23 rfl 0 rfl ?_
    refine ev_getI dX0_takeBack_24 C_X0 L_X0_21 (by decide) (by decide) sh_64 rfl ?_
    refine ev_top (v := σ 64 2) (by first | rfl | (simp only [av_set, cpS]; (repeat' split) <;> first | rfl | (exfalso; omega))) ?_
    refine ev_top (v := nI c) hc ?_
    refine ev_iconst dX0_takeBack_27 (v := nI 1) (by decide) ?_
    refine ev_isub dX0_takeBack_28 ?_
    refine ev_top (v := nI (c - 1)) (pk_sub (by omega)) ?_
    refine ev_iconst dX0_takeBack_29 (v := nI 0) (by decide) ?_
    refine ev_max (v := nI (c - 1)) dX0_takeBack_30 M_X0_35 (by decide) (Nat.le_of_ble_eq_true rfl) ((nI_max (by omega) (by omega)).trans (by rw [Nat.max_eq_left (by omega)])) ?_
    refine ev_putI dX0_takeBack_33 C_X0 L_X0_21 (by decide) (by decide) sh_64 rfl rfl rfl ?_
    refine ev_st (σ' := av_set σ 64 (upd (upd (σ 64) 1 (nI 7)) 2 (nI (c - 1)))) (by first | rfl | exact av_set_set _ _ _ _ | (funext a; unfold av_set; (repeat' split) <;> first | rfl | (exfalso; omega)) | (funext a; simp only [av_set, cpS]; (repeat' split) <;> first | rfl | (exfalso; omega))) ?_
    refine ev_aload_n dX0_takeBack_36 rfl 0 rfl ?_
    refine ev_getR dX0_takeBack_37 C_X0 L_X0_11 (by decide) (by decide) sh_64 rfl ?_
    refine ev_aload_n dX0_takeBack_40 rfl 0 rfl ?_
    refine ev_getI dX0_takeBack_41 C_X0 L_X0_17 (by decide) (by decide) sh_64 rfl ?_
    refine ev_top (v := nI 7) (by first | rfl | (simp only [av_set, cpS]; (repeat' split) <;> first | rfl | (exfalso; omega))) ?_
    refine ev_aald (e := 7) (r := 56) dX0_takeBack_44 (by decide) sh_65 (by decide) (by omega) (by decide) (by first | rfl | (show _ = _; omega)) ?_
    refine ev_astore_n (lv' := [(2, .ref 56), (0, .ref 64), (1, .ref 0)]) dX0_takeBack_45 rfl (by decide) rfl ?_
    refine ev_aload_n dX0_takeBack_46 rfl 0 rfl ?_
    refine ev_ifnull dX0_takeBack_47 ?_
    refine ev_aload_n dX0_takeBack_50 rfl 2 rfl ?_
    refine ev_aload_n dX0_takeBack_51 rfl 0 rfl ?_
    refine ev_callVv (σ' := cpS (av_set σ 64 (upd (upd (σ 64) 1 (nI 7)) 2 (nI (c - 1)))) 0 8) dX0_takeBack_52 M_X0_25 Y_X4_copyFrom [.ref 56] (c_X4_copyFrom 0 8 (by omega) (by omega) (by omega)) (by decide) (Nat.le_of_ble_eq_true rfl) (by decide) sh_0 rfl rfl rfl (Nat.le_of_ble_eq_true rfl) ?_
    exact ev_return dX0_takeBack_55 rfl (leafV hQ (by first | (rw [← htake_raw hj8, show prv j = 7 by unfold prv; rw [if_pos h5]]) | (rw [← htake_raw hj8, show prv j = j - 1 by unfold prv; rw [if_neg h5], show j - 1 + 1 = j by omega])))
end
