-- ===== PART A: goes FIRST, ahead of the names: the tables' words, and 'selects' of the private methods out of them =====
/-- a private method of a class that the tables say can be made, by its rows of tables_1 -/
def lw_okq (q : MethodName × Nat) : Prop := (q.1.cls ≠ "java/lang/invoke/MethodHandle" ∧ q.1.cls ≠ "java/lang/invoke/VarHandle") ∧ Cond.instantiable q.1.cls q.2 ∈ tables_1 ∧ Cond.privateMethod q.1 ∈ tables_1 ∧ Cond.instanceMethod q.1 ∈ tables_1
theorem lw_p0 : lw_okq (⟨"RelayNetwork", "leaveChannel", "(III)I"⟩, 4) := ⟨⟨by decide +kernel, by decide +kernel⟩, List.mem_of_getElem? (i := 18) (by decide +kernel), List.mem_of_getElem? (i := 416) (by decide +kernel), List.mem_of_getElem? (i := 417) (by decide +kernel)⟩
theorem lw_p1 : lw_okq (⟨"RelayNetwork$PlanSearch", "load", "(LRelayNetwork$State;)I"⟩, 5) := ⟨⟨by decide +kernel, by decide +kernel⟩, List.mem_of_getElem? (i := 107) (by decide +kernel), List.mem_of_getElem? (i := 617) (by decide +kernel), List.mem_of_getElem? (i := 618) (by decide +kernel)⟩
theorem lw_p2 : lw_okq (⟨"RelayNetwork$PlanSearch", "search", "(II)V"⟩, 5) := ⟨⟨by decide +kernel, by decide +kernel⟩, List.mem_of_getElem? (i := 107) (by decide +kernel), List.mem_of_getElem? (i := 625) (by decide +kernel), List.mem_of_getElem? (i := 626) (by decide +kernel)⟩
theorem lw_p3 : lw_okq (⟨"RelayNetwork$PlanSearch", "tryLinks", "(II)V"⟩, 5) := ⟨⟨by decide +kernel, by decide +kernel⟩, List.mem_of_getElem? (i := 107) (by decide +kernel), List.mem_of_getElem? (i := 635) (by decide +kernel), List.mem_of_getElem? (i := 636) (by decide +kernel)⟩
theorem lw_p4 : lw_okq (⟨"RelayNetworkModel", "reset", "(I)V"⟩, 13) := ⟨⟨by decide +kernel, by decide +kernel⟩, List.mem_of_getElem? (i := 657) (by decide +kernel), List.mem_of_getElem? (i := 663) (by decide +kernel), List.mem_of_getElem? (i := 664) (by decide +kernel)⟩
theorem lw_p5 : lw_okq (⟨"RelayNetworkModel", "save", "()V"⟩, 13) := ⟨⟨by decide +kernel, by decide +kernel⟩, List.mem_of_getElem? (i := 657) (by decide +kernel), List.mem_of_getElem? (i := 718) (by decide +kernel), List.mem_of_getElem? (i := 719) (by decide +kernel)⟩
theorem lw_p6 : lw_okq (⟨"RelayNetworkModel", "areServers", "(II)Z"⟩, 13) := ⟨⟨by decide +kernel, by decide +kernel⟩, List.mem_of_getElem? (i := 657) (by decide +kernel), List.mem_of_getElem? (i := 726) (by decide +kernel), List.mem_of_getElem? (i := 727) (by decide +kernel)⟩
theorem lw_p7 : lw_okq (⟨"RelayNetworkModel", "isServer", "(I)Z"⟩, 13) := ⟨⟨by decide +kernel, by decide +kernel⟩, List.mem_of_getElem? (i := 657) (by decide +kernel), List.mem_of_getElem? (i := 730) (by decide +kernel), List.mem_of_getElem? (i := 731) (by decide +kernel)⟩
theorem lw_p8 : lw_okq (⟨"RelayNetworkModel", "areConnected", "(II)Z"⟩, 13) := ⟨⟨by decide +kernel, by decide +kernel⟩, List.mem_of_getElem? (i := 657) (by decide +kernel), List.mem_of_getElem? (i := 734) (by decide +kernel), List.mem_of_getElem? (i := 735) (by decide +kernel)⟩
theorem lw_p9 : lw_okq (⟨"RelayNetworkModel", "network", "(I)I"⟩, 13) := ⟨⟨by decide +kernel, by decide +kernel⟩, List.mem_of_getElem? (i := 657) (by decide +kernel), List.mem_of_getElem? (i := 738) (by decide +kernel), List.mem_of_getElem? (i := 739) (by decide +kernel)⟩
theorem lw_p10 : lw_okq (⟨"RelayNetworkModel", "mergeNicks", "(II)I"⟩, 13) := ⟨⟨by decide +kernel, by decide +kernel⟩, List.mem_of_getElem? (i := 657) (by decide +kernel), List.mem_of_getElem? (i := 745) (by decide +kernel), List.mem_of_getElem? (i := 746) (by decide +kernel)⟩
theorem lw_p11 : lw_okq (⟨"RelayNetworkModel", "homeIn", "(II)I"⟩, 13) := ⟨⟨by decide +kernel, by decide +kernel⟩, List.mem_of_getElem? (i := 657) (by decide +kernel), List.mem_of_getElem? (i := 749) (by decide +kernel), List.mem_of_getElem? (i := 750) (by decide +kernel)⟩
theorem lw_p12 : lw_okq (⟨"RelayNetworkModel", "isUser", "(II)Z"⟩, 13) := ⟨⟨by decide +kernel, by decide +kernel⟩, List.mem_of_getElem? (i := 657) (by decide +kernel), List.mem_of_getElem? (i := 753) (by decide +kernel), List.mem_of_getElem? (i := 754) (by decide +kernel)⟩
theorem lw_p13 : lw_okq (⟨"RelayNetworkModel", "removeUser", "(II)V"⟩, 13) := ⟨⟨by decide +kernel, by decide +kernel⟩, List.mem_of_getElem? (i := 657) (by decide +kernel), List.mem_of_getElem? (i := 760) (by decide +kernel), List.mem_of_getElem? (i := 761) (by decide +kernel)⟩
theorem lw_p14 : lw_okq (⟨"RelayNetworkModel", "mergeChannel", "(III)V"⟩, 13) := ⟨⟨by decide +kernel, by decide +kernel⟩, List.mem_of_getElem? (i := 657) (by decide +kernel), List.mem_of_getElem? (i := 764) (by decide +kernel), List.mem_of_getElem? (i := 765) (by decide +kernel)⟩
theorem lw_p15 : lw_okq (⟨"RelayNetworkModel", "membersIn", "(II)I"⟩, 13) := ⟨⟨by decide +kernel, by decide +kernel⟩, List.mem_of_getElem? (i := 657) (by decide +kernel), List.mem_of_getElem? (i := 768) (by decide +kernel), List.mem_of_getElem? (i := 769) (by decide +kernel)⟩
def lw_privs_1 : List (MethodName × Nat) := [(⟨"RelayNetwork", "leaveChannel", "(III)I"⟩, 4), (⟨"RelayNetwork$PlanSearch", "load", "(LRelayNetwork$State;)I"⟩, 5), (⟨"RelayNetwork$PlanSearch", "search", "(II)V"⟩, 5), (⟨"RelayNetwork$PlanSearch", "tryLinks", "(II)V"⟩, 5), (⟨"RelayNetworkModel", "reset", "(I)V"⟩, 13), (⟨"RelayNetworkModel", "save", "()V"⟩, 13), (⟨"RelayNetworkModel", "areServers", "(II)Z"⟩, 13), (⟨"RelayNetworkModel", "isServer", "(I)Z"⟩, 13), (⟨"RelayNetworkModel", "areConnected", "(II)Z"⟩, 13), (⟨"RelayNetworkModel", "network", "(I)I"⟩, 13), (⟨"RelayNetworkModel", "mergeNicks", "(II)I"⟩, 13), (⟨"RelayNetworkModel", "homeIn", "(II)I"⟩, 13), (⟨"RelayNetworkModel", "isUser", "(II)Z"⟩, 13), (⟨"RelayNetworkModel", "removeUser", "(II)V"⟩, 13), (⟨"RelayNetworkModel", "mergeChannel", "(III)V"⟩, 13), (⟨"RelayNetworkModel", "membersIn", "(II)I"⟩, 13)]
theorem lw_r1 : ∀ q ∈ lw_privs_1, lw_okq q := List.forall_mem_cons.mpr ⟨lw_p0, List.forall_mem_cons.mpr ⟨lw_p1, List.forall_mem_cons.mpr ⟨lw_p2, List.forall_mem_cons.mpr ⟨lw_p3, List.forall_mem_cons.mpr ⟨lw_p4, List.forall_mem_cons.mpr ⟨lw_p5, List.forall_mem_cons.mpr ⟨lw_p6, List.forall_mem_cons.mpr ⟨lw_p7, List.forall_mem_cons.mpr ⟨lw_p8, List.forall_mem_cons.mpr ⟨lw_p9, List.forall_mem_cons.mpr ⟨lw_p10, List.forall_mem_cons.mpr ⟨lw_p11, List.forall_mem_cons.mpr ⟨lw_p12, List.forall_mem_cons.mpr ⟨lw_p13, List.forall_mem_cons.mpr ⟨lw_p14, List.forall_mem_cons.mpr ⟨lw_p15, fun _ h => absurd h List.not_mem_nil⟩⟩⟩⟩⟩⟩⟩⟩⟩⟩⟩⟩⟩⟩⟩⟩
theorem lw_p16 : lw_okq (⟨"RelayNetworkModel", "nicksIn", "(III)I"⟩, 13) := ⟨⟨by decide +kernel, by decide +kernel⟩, List.mem_of_getElem? (i := 657) (by decide +kernel), List.mem_of_getElem? (i := 772) (by decide +kernel), List.mem_of_getElem? (i := 773) (by decide +kernel)⟩
theorem lw_p17 : lw_okq (⟨"RelayNetworkModel", "setChannel", "(IIII)V"⟩, 13) := ⟨⟨by decide +kernel, by decide +kernel⟩, List.mem_of_getElem? (i := 657) (by decide +kernel), List.mem_of_getElem? (i := 776) (by decide +kernel), List.mem_of_getElem? (i := 777) (by decide +kernel)⟩
theorem lw_p18 : lw_okq (⟨"RelayNetworkModel", "depriveAll", "(II)V"⟩, 13) := ⟨⟨by decide +kernel, by decide +kernel⟩, List.mem_of_getElem? (i := 657) (by decide +kernel), List.mem_of_getElem? (i := 780) (by decide +kernel), List.mem_of_getElem? (i := 781) (by decide +kernel)⟩
theorem lw_p19 : lw_okq (⟨"RelayNetworkModel", "setLink", "(IIZ)V"⟩, 13) := ⟨⟨by decide +kernel, by decide +kernel⟩, List.mem_of_getElem? (i := 657) (by decide +kernel), List.mem_of_getElem? (i := 787) (by decide +kernel), List.mem_of_getElem? (i := 788) (by decide +kernel)⟩
theorem lw_p20 : lw_okq (⟨"RelayNetworkModel", "areLinked", "(II)Z"⟩, 13) := ⟨⟨by decide +kernel, by decide +kernel⟩, List.mem_of_getElem? (i := 657) (by decide +kernel), List.mem_of_getElem? (i := 795) (by decide +kernel), List.mem_of_getElem? (i := 796) (by decide +kernel)⟩
theorem lw_p21 : lw_okq (⟨"RelayNetworkModel", "isPlace", "(II)Z"⟩, 13) := ⟨⟨by decide +kernel, by decide +kernel⟩, List.mem_of_getElem? (i := 657) (by decide +kernel), List.mem_of_getElem? (i := 815) (by decide +kernel), List.mem_of_getElem? (i := 816) (by decide +kernel)⟩
theorem lw_p22 : lw_okq (⟨"RelayNetworkModel", "isMember", "(III)Z"⟩, 13) := ⟨⟨by decide +kernel, by decide +kernel⟩, List.mem_of_getElem? (i := 657) (by decide +kernel), List.mem_of_getElem? (i := 849) (by decide +kernel), List.mem_of_getElem? (i := 850) (by decide +kernel)⟩
theorem lw_p23 : lw_okq (⟨"RelayNetworkModel", "memberCount", "(II)I"⟩, 13) := ⟨⟨by decide +kernel, by decide +kernel⟩, List.mem_of_getElem? (i := 657) (by decide +kernel), List.mem_of_getElem? (i := 853) (by decide +kernel), List.mem_of_getElem? (i := 854) (by decide +kernel)⟩
theorem lw_p24 : lw_okq (⟨"RelayNetworkModel", "leave", "(III)V"⟩, 13) := ⟨⟨by decide +kernel, by decide +kernel⟩, List.mem_of_getElem? (i := 657) (by decide +kernel), List.mem_of_getElem? (i := 861) (by decide +kernel), List.mem_of_getElem? (i := 862) (by decide +kernel)⟩
theorem lw_p25 : lw_okq (⟨"RelayNetworkModel", "isOperator", "(III)Z"⟩, 13) := ⟨⟨by decide +kernel, by decide +kernel⟩, List.mem_of_getElem? (i := 657) (by decide +kernel), List.mem_of_getElem? (i := 869) (by decide +kernel), List.mem_of_getElem? (i := 870) (by decide +kernel)⟩
theorem lw_p26 : lw_okq (⟨"RelayNetworkModel", "check", "(I)I"⟩, 13) := ⟨⟨by decide +kernel, by decide +kernel⟩, List.mem_of_getElem? (i := 657) (by decide +kernel), List.mem_of_getElem? (i := 885) (by decide +kernel), List.mem_of_getElem? (i := 886) (by decide +kernel)⟩
theorem lw_p27 : lw_okq (⟨"RelayNetworkModel", "applyText", "(II)V"⟩, 13) := ⟨⟨by decide +kernel, by decide +kernel⟩, List.mem_of_getElem? (i := 657) (by decide +kernel), List.mem_of_getElem? (i := 895) (by decide +kernel), List.mem_of_getElem? (i := 896) (by decide +kernel)⟩
theorem lw_p28 : lw_okq (⟨"RelayNetworkModel", "setOperator", "(IIIZ)V"⟩, 13) := ⟨⟨by decide +kernel, by decide +kernel⟩, List.mem_of_getElem? (i := 657) (by decide +kernel), List.mem_of_getElem? (i := 899) (by decide +kernel), List.mem_of_getElem? (i := 900) (by decide +kernel)⟩
theorem lw_p29 : lw_okq (⟨"RelayNetworkModel", "valueOf", "(III)I"⟩, 13) := ⟨⟨by decide +kernel, by decide +kernel⟩, List.mem_of_getElem? (i := 657) (by decide +kernel), List.mem_of_getElem? (i := 915) (by decide +kernel), List.mem_of_getElem? (i := 916) (by decide +kernel)⟩
theorem lw_p30 : lw_okq (⟨"RelayNetworkModel", "forecastError", "(II)I"⟩, 13) := ⟨⟨by decide +kernel, by decide +kernel⟩, List.mem_of_getElem? (i := 657) (by decide +kernel), List.mem_of_getElem? (i := 935) (by decide +kernel), List.mem_of_getElem? (i := 936) (by decide +kernel)⟩
theorem lw_p31 : lw_okq (⟨"RelayNetworkModel", "burstOf", "(I)I"⟩, 13) := ⟨⟨by decide +kernel, by decide +kernel⟩, List.mem_of_getElem? (i := 657) (by decide +kernel), List.mem_of_getElem? (i := 939) (by decide +kernel), List.mem_of_getElem? (i := 940) (by decide +kernel)⟩
def lw_privs_2 : List (MethodName × Nat) := [(⟨"RelayNetworkModel", "nicksIn", "(III)I"⟩, 13), (⟨"RelayNetworkModel", "setChannel", "(IIII)V"⟩, 13), (⟨"RelayNetworkModel", "depriveAll", "(II)V"⟩, 13), (⟨"RelayNetworkModel", "setLink", "(IIZ)V"⟩, 13), (⟨"RelayNetworkModel", "areLinked", "(II)Z"⟩, 13), (⟨"RelayNetworkModel", "isPlace", "(II)Z"⟩, 13), (⟨"RelayNetworkModel", "isMember", "(III)Z"⟩, 13), (⟨"RelayNetworkModel", "memberCount", "(II)I"⟩, 13), (⟨"RelayNetworkModel", "leave", "(III)V"⟩, 13), (⟨"RelayNetworkModel", "isOperator", "(III)Z"⟩, 13), (⟨"RelayNetworkModel", "check", "(I)I"⟩, 13), (⟨"RelayNetworkModel", "applyText", "(II)V"⟩, 13), (⟨"RelayNetworkModel", "setOperator", "(IIIZ)V"⟩, 13), (⟨"RelayNetworkModel", "valueOf", "(III)I"⟩, 13), (⟨"RelayNetworkModel", "forecastError", "(II)I"⟩, 13), (⟨"RelayNetworkModel", "burstOf", "(I)I"⟩, 13)]
theorem lw_r2 : ∀ q ∈ lw_privs_2, lw_okq q := List.forall_mem_cons.mpr ⟨lw_p16, List.forall_mem_cons.mpr ⟨lw_p17, List.forall_mem_cons.mpr ⟨lw_p18, List.forall_mem_cons.mpr ⟨lw_p19, List.forall_mem_cons.mpr ⟨lw_p20, List.forall_mem_cons.mpr ⟨lw_p21, List.forall_mem_cons.mpr ⟨lw_p22, List.forall_mem_cons.mpr ⟨lw_p23, List.forall_mem_cons.mpr ⟨lw_p24, List.forall_mem_cons.mpr ⟨lw_p25, List.forall_mem_cons.mpr ⟨lw_p26, List.forall_mem_cons.mpr ⟨lw_p27, List.forall_mem_cons.mpr ⟨lw_p28, List.forall_mem_cons.mpr ⟨lw_p29, List.forall_mem_cons.mpr ⟨lw_p30, List.forall_mem_cons.mpr ⟨lw_p31, fun _ h => absurd h List.not_mem_nil⟩⟩⟩⟩⟩⟩⟩⟩⟩⟩⟩⟩⟩⟩⟩⟩
theorem lw_p32 : lw_okq (⟨"RelayNetworkModel", "readGroup", "(II)V"⟩, 13) := ⟨⟨by decide +kernel, by decide +kernel⟩, List.mem_of_getElem? (i := 657) (by decide +kernel), List.mem_of_getElem? (i := 947) (by decide +kernel), List.mem_of_getElem? (i := 948) (by decide +kernel)⟩
theorem lw_p33 : lw_okq (⟨"RelayNetworkModel", "mergeGroups", "(III)I"⟩, 13) := ⟨⟨by decide +kernel, by decide +kernel⟩, List.mem_of_getElem? (i := 657) (by decide +kernel), List.mem_of_getElem? (i := 954) (by decide +kernel), List.mem_of_getElem? (i := 955) (by decide +kernel)⟩
theorem lw_p34 : lw_okq (⟨"RelayNetworkModel", "usersOutside", "(I)I"⟩, 13) := ⟨⟨by decide +kernel, by decide +kernel⟩, List.mem_of_getElem? (i := 657) (by decide +kernel), List.mem_of_getElem? (i := 962) (by decide +kernel), List.mem_of_getElem? (i := 963) (by decide +kernel)⟩
theorem lw_p35 : lw_okq (⟨"RelayNetworkModel", "searchPlans", "()V"⟩, 13) := ⟨⟨by decide +kernel, by decide +kernel⟩, List.mem_of_getElem? (i := 657) (by decide +kernel), List.mem_of_getElem? (i := 970) (by decide +kernel), List.mem_of_getElem? (i := 971) (by decide +kernel)⟩
theorem lw_p36 : lw_okq (⟨"RelayNetworkModel", "readGroups", "()I"⟩, 13) := ⟨⟨by decide +kernel, by decide +kernel⟩, List.mem_of_getElem? (i := 657) (by decide +kernel), List.mem_of_getElem? (i := 974) (by decide +kernel), List.mem_of_getElem? (i := 975) (by decide +kernel)⟩
theorem lw_p37 : lw_okq (⟨"RelayNetworkModel", "nextPair", "(II)Z"⟩, 13) := ⟨⟨by decide +kernel, by decide +kernel⟩, List.mem_of_getElem? (i := 657) (by decide +kernel), List.mem_of_getElem? (i := 978) (by decide +kernel), List.mem_of_getElem? (i := 979) (by decide +kernel)⟩
theorem lw_p38 : lw_okq (⟨"RelayNetworkModel", "descend", "(II)V"⟩, 13) := ⟨⟨by decide +kernel, by decide +kernel⟩, List.mem_of_getElem? (i := 657) (by decide +kernel), List.mem_of_getElem? (i := 982) (by decide +kernel), List.mem_of_getElem? (i := 983) (by decide +kernel)⟩
def lw_privs_3 : List (MethodName × Nat) := [(⟨"RelayNetworkModel", "readGroup", "(II)V"⟩, 13), (⟨"RelayNetworkModel", "mergeGroups", "(III)I"⟩, 13), (⟨"RelayNetworkModel", "usersOutside", "(I)I"⟩, 13), (⟨"RelayNetworkModel", "searchPlans", "()V"⟩, 13), (⟨"RelayNetworkModel", "readGroups", "()I"⟩, 13), (⟨"RelayNetworkModel", "nextPair", "(II)Z"⟩, 13), (⟨"RelayNetworkModel", "descend", "(II)V"⟩, 13)]
theorem lw_r3 : ∀ q ∈ lw_privs_3, lw_okq q := List.forall_mem_cons.mpr ⟨lw_p32, List.forall_mem_cons.mpr ⟨lw_p33, List.forall_mem_cons.mpr ⟨lw_p34, List.forall_mem_cons.mpr ⟨lw_p35, List.forall_mem_cons.mpr ⟨lw_p36, List.forall_mem_cons.mpr ⟨lw_p37, List.forall_mem_cons.mpr ⟨lw_p38, fun _ h => absurd h List.not_mem_nil⟩⟩⟩⟩⟩⟩⟩
def lw_privs : List (MethodName × Nat) := lw_privs_1 ++ (lw_privs_2 ++ (lw_privs_3))
def lw_tbl : List Cond := k2_sels lw_privs ++ tables_1
theorem lw_privs_ok : ∀ q ∈ lw_privs, lw_okq q := by
  show ∀ q ∈ lw_privs_1 ++ (lw_privs_2 ++ (lw_privs_3)), lw_okq q
  exact List.forall_mem_append.mpr ⟨lw_r1, List.forall_mem_append.mpr ⟨lw_r2, lw_r3⟩⟩
def RX0 : String := "RelayNetwork$History"
def TX0 : u_T := fun k => match k with
  | 0 => ("RelayNetwork$History", "rows", "[LRelayNetwork$State;", true)
  | 1 => ("RelayNetwork$History", "next", "I", false)
  | _ => ("RelayNetwork$History", "count", "I", false)
def tyX0 : Nat → FieldType := fun k => match k with
  | 0 => .array (.object "RelayNetwork$State")
  | 1 => .int
  | _ => .int
theorem nmX0 : ∀ a, a < 3 → ∀ b, b < 3 → a ≠ b → (TX0 a).2.1 ≠ (TX0 b).2.1 := by decide +kernel
theorem tyX0_ok : ∀ k, k < 3 → parseFieldDescriptor (TX0 k).2.2.1 = some (tyX0 k) := by decide +kernel
abbrev cX0_init : ByteArray := prog_2_method_1_code
def yX0_init : MethodName := ⟨RX0, "<init>", "()V"⟩
abbrev cX0_keep : ByteArray := prog_2_method_2_code
def yX0_keep : MethodName := ⟨RX0, "keep", "(LRelayNetwork$State;)V"⟩
abbrev cX0_takeBack : ByteArray := prog_2_method_3_code
def yX0_takeBack : MethodName := ⟨RX0, "takeBack", "(LRelayNetwork$State;)V"⟩
def RX1 : String := "RelayNetwork$Merge"
def TX1 : u_T := fun k => match k with
  | _ => ("", "", "", false)
def tyX1 : Nat → FieldType := fun k => match k with
  | _ => .int
theorem nmX1 : ∀ a, a < 0 → ∀ b, b < 0 → a ≠ b → (TX1 a).2.1 ≠ (TX1 b).2.1 := by decide +kernel
theorem tyX1_ok : ∀ k, k < 0 → parseFieldDescriptor (TX1 k).2.2.1 = some (tyX1 k) := by decide +kernel
abbrev cX1_survivor : ByteArray := prog_3_method_2_code
def yX1_survivor : MethodName := ⟨RX1, "survivor", "(II)I"⟩
abbrev cX1_countKills : ByteArray := prog_3_method_3_code
def yX1_countKills : MethodName := ⟨RX1, "countKills", "(LRelayNetwork$State;II)I"⟩
abbrev cX1_settleNicks : ByteArray := prog_3_method_4_code
def yX1_settleNicks : MethodName := ⟨RX1, "settleNicks", "(LRelayNetwork$State;II)V"⟩
abbrev cX1_settleCollision : ByteArray := prog_3_method_5_code
def yX1_settleCollision : MethodName := ⟨RX1, "settleCollision", "(LRelayNetwork$State;III)V"⟩
abbrev cX1_settleChannels : ByteArray := prog_3_method_6_code
def yX1_settleChannels : MethodName := ⟨RX1, "settleChannels", "(LRelayNetwork$State;II)V"⟩
abbrev cX1_uniteChannels : ByteArray := prog_3_method_7_code
def yX1_uniteChannels : MethodName := ⟨RX1, "uniteChannels", "(LRelayNetwork$State;III)V"⟩
abbrev cX1_overruleChannel : ByteArray := prog_3_method_8_code
def yX1_overruleChannel : MethodName := ⟨RX1, "overruleChannel", "(LRelayNetwork$State;III)V"⟩
abbrev cX1_tellOfChannel : ByteArray := prog_3_method_9_code
def yX1_tellOfChannel : MethodName := ⟨RX1, "tellOfChannel", "(LRelayNetwork$State;III)V"⟩
def RX2 : String := "RelayNetwork$ModeText"
def TX2 : u_T := fun k => match k with
  | 0 => ("RelayNetwork$ModeText", "characters", "[C", true)
  | _ => ("RelayNetwork$ModeText", "length", "I", false)
def tyX2 : Nat → FieldType := fun k => match k with
  | 0 => .array .char
  | _ => .int
theorem nmX2 : ∀ a, a < 2 → ∀ b, b < 2 → a ≠ b → (TX2 a).2.1 ≠ (TX2 b).2.1 := by decide +kernel
theorem tyX2_ok : ∀ k, k < 2 → parseFieldDescriptor (TX2 k).2.2.1 = some (tyX2 k) := by decide +kernel
abbrev cX2_init : ByteArray := prog_4_method_1_code
def yX2_init : MethodName := ⟨RX2, "<init>", "()V"⟩
abbrev cX2_isFull : ByteArray := prog_4_method_2_code
def yX2_isFull : MethodName := ⟨RX2, "isFull", "()Z"⟩
abbrev cX2_add : ByteArray := prog_4_method_3_code
def yX2_add : MethodName := ⟨RX2, "add", "(C)V"⟩
abbrev cX2_empty : ByteArray := prog_4_method_4_code
def yX2_empty : MethodName := ⟨RX2, "empty", "()V"⟩
abbrev cX2_errorOffset : ByteArray := prog_4_method_5_code
def yX2_errorOffset : MethodName := ⟨RX2, "errorOffset", "(I)I"⟩
abbrev cX2_placeAfter : ByteArray := prog_4_method_6_code
def yX2_placeAfter : MethodName := ⟨RX2, "placeAfter", "(ICI)I"⟩
abbrev cX2_modesAfter : ByteArray := prog_4_method_7_code
def yX2_modesAfter : MethodName := ⟨RX2, "modesAfter", "(I)I"⟩
abbrev cX2_operatorsAfter : ByteArray := prog_4_method_8_code
def yX2_operatorsAfter : MethodName := ⟨RX2, "operatorsAfter", "(I)I"⟩
abbrev cX2_countItems : ByteArray := prog_4_method_9_code
def yX2_countItems : MethodName := ⟨RX2, "countItems", "()I"⟩
abbrev cX2_isSign : ByteArray := prog_4_method_10_code
def yX2_isSign : MethodName := ⟨RX2, "isSign", "(C)Z"⟩
abbrev cX2_isDigit : ByteArray := prog_4_method_11_code
def yX2_isDigit : MethodName := ⟨RX2, "isDigit", "(C)Z"⟩
def RX3 : String := "RelayNetwork$PlanSearch"
def TX3 : u_T := fun k => match k with
  | 0 => ("RelayNetwork$PlanSearch", "times", "[[I", true)
  | 1 => ("RelayNetwork$PlanSearch", "representatives", "[I", true)
  | 2 => ("RelayNetwork$PlanSearch", "opening", "I", false)
  | 3 => ("RelayNetwork$PlanSearch", "bestOpening", "I", false)
  | _ => ("RelayNetwork$PlanSearch", "bestSurvivors", "I", false)
def tyX3 : Nat → FieldType := fun k => match k with
  | 0 => .array (.array .int)
  | 1 => .array .int
  | 2 => .int
  | 3 => .int
  | _ => .int
theorem nmX3 : ∀ a, a < 5 → ∀ b, b < 5 → a ≠ b → (TX3 a).2.1 ≠ (TX3 b).2.1 := by decide +kernel
theorem tyX3_ok : ∀ k, k < 5 → parseFieldDescriptor (TX3 k).2.2.1 = some (tyX3 k) := by decide +kernel
abbrev cX3_init : ByteArray := prog_5_method_1_code
def yX3_init : MethodName := ⟨RX3, "<init>", "()V"⟩
abbrev cX3_findBest : ByteArray := prog_5_method_2_code
def yX3_findBest : MethodName := ⟨RX3, "findBest", "(LRelayNetwork$State;)V"⟩
abbrev cX3_load : ByteArray := prog_5_method_3_code
def yX3_load : MethodName := ⟨RX3, "load", "(LRelayNetwork$State;)I"⟩
abbrev cX3_search : ByteArray := prog_5_method_4_code
def yX3_search : MethodName := ⟨RX3, "search", "(II)V"⟩
abbrev cX3_tryLinks : ByteArray := prog_5_method_5_code
def yX3_tryLinks : MethodName := ⟨RX3, "tryLinks", "(II)V"⟩
abbrev cX3_mergeRows : ByteArray := prog_5_method_6_code
def yX3_mergeRows : MethodName := ⟨RX3, "mergeRows", "([I[IIII)V"⟩
abbrev cX3_countHopes : ByteArray := prog_5_method_7_code
def yX3_countHopes : MethodName := ⟨RX3, "countHopes", "([II)I"⟩
abbrev cX3_mayBeLeft : ByteArray := prog_5_method_8_code
def yX3_mayBeLeft : MethodName := ⟨RX3, "mayBeLeft", "([III)Z"⟩
def RX4 : String := "RelayNetwork$State"
def TX4 : u_T := fun k => match k with
  | 0 => ("RelayNetwork$State", "serverCount", "I", false)
  | 1 => ("RelayNetwork$State", "clock", "I", false)
  | 2 => ("RelayNetwork$State", "deprived", "I", false)
  | 3 => ("RelayNetwork$State", "dropped", "I", false)
  | 4 => ("RelayNetwork$State", "links", "[I", true)
  | 5 => ("RelayNetwork$State", "userTimes", "[I", true)
  | 6 => ("RelayNetwork$State", "memberSets", "[I", true)
  | 7 => ("RelayNetwork$State", "operatorSets", "[I", true)
  | 8 => ("RelayNetwork$State", "channelTimes", "[I", true)
  | _ => ("RelayNetwork$State", "channelModes", "[I", true)
def tyX4 : Nat → FieldType := fun k => match k with
  | 0 => .int
  | 1 => .int
  | 2 => .int
  | 3 => .int
  | 4 => .array .int
  | 5 => .array .int
  | 6 => .array .int
  | 7 => .array .int
  | 8 => .array .int
  | _ => .array .int
theorem nmX4 : ∀ a, a < 10 → ∀ b, b < 10 → a ≠ b → (TX4 a).2.1 ≠ (TX4 b).2.1 := by decide +kernel
theorem tyX4_ok : ∀ k, k < 10 → parseFieldDescriptor (TX4 k).2.2.1 = some (tyX4 k) := by decide +kernel
abbrev cX4_init : ByteArray := prog_6_method_1_code
def yX4_init : MethodName := ⟨RX4, "<init>", "()V"⟩
abbrev cX4_reset : ByteArray := prog_6_method_2_code
def yX4_reset : MethodName := ⟨RX4, "reset", "(I)V"⟩
abbrev cX4_copyFrom : ByteArray := prog_6_method_3_code
def yX4_copyFrom : MethodName := ⟨RX4, "copyFrom", "(LRelayNetwork$State;)V"⟩
abbrev cX4_userCell : ByteArray := prog_6_method_4_code
def yX4_userCell : MethodName := ⟨RX4, "userCell", "(II)I"⟩
abbrev cX4_channelCell : ByteArray := prog_6_method_5_code
def yX4_channelCell : MethodName := ⟨RX4, "channelCell", "(II)I"⟩
abbrev cX4_hasServer : ByteArray := prog_6_method_6_code
def yX4_hasServer : MethodName := ⟨RX4, "hasServer", "(I)Z"⟩
abbrev cX4_hasServers : ByteArray := prog_6_method_7_code
def yX4_hasServers : MethodName := ⟨RX4, "hasServers", "(II)Z"⟩
abbrev cX4_areLinked : ByteArray := prog_6_method_8_code
def yX4_areLinked : MethodName := ⟨RX4, "areLinked", "(II)Z"⟩
abbrev cX4_link : ByteArray := prog_6_method_9_code
def yX4_link : MethodName := ⟨RX4, "link", "(II)V"⟩
abbrev cX4_unlink : ByteArray := prog_6_method_10_code
def yX4_unlink : MethodName := ⟨RX4, "unlink", "(II)V"⟩
abbrev cX4_withNeighbours : ByteArray := prog_6_method_11_code
def yX4_withNeighbours : MethodName := ⟨RX4, "withNeighbours", "(I)I"⟩
abbrev cX4_networkOf : ByteArray := prog_6_method_12_code
def yX4_networkOf : MethodName := ⟨RX4, "networkOf", "(I)I"⟩
abbrev cX4_shareNetwork : ByteArray := prog_6_method_13_code
def yX4_shareNetwork : MethodName := ⟨RX4, "shareNetwork", "(II)Z"⟩
abbrev cX4_hasUser : ByteArray := prog_6_method_14_code
def yX4_hasUser : MethodName := ⟨RX4, "hasUser", "(II)Z"⟩
abbrev cX4_timeOfUser : ByteArray := prog_6_method_15_code
def yX4_timeOfUser : MethodName := ⟨RX4, "timeOfUser", "(II)I"⟩
abbrev cX4_homeIn : ByteArray := prog_6_method_16_code
def yX4_homeIn : MethodName := ⟨RX4, "homeIn", "(II)I"⟩
abbrev cX4_timeOfNick : ByteArray := prog_6_method_17_code
def yX4_timeOfNick : MethodName := ⟨RX4, "timeOfNick", "(II)I"⟩
abbrev cX4_nicksIn : ByteArray := prog_6_method_18_code
def yX4_nicksIn : MethodName := ⟨RX4, "nicksIn", "(I)I"⟩
abbrev cX4_countUsers : ByteArray := prog_6_method_19_code
def yX4_countUsers : MethodName := ⟨RX4, "countUsers", "(I)I"⟩
abbrev cX4_countChannelsOf : ByteArray := prog_6_method_20_code
def yX4_countChannelsOf : MethodName := ⟨RX4, "countChannelsOf", "(II)I"⟩
abbrev cX4_addUser : ByteArray := prog_6_method_21_code
def yX4_addUser : MethodName := ⟨RX4, "addUser", "(II)V"⟩
abbrev cX4_removeUser : ByteArray := prog_6_method_22_code
def yX4_removeUser : MethodName := ⟨RX4, "removeUser", "(II)V"⟩
abbrev cX4_renameUser : ByteArray := prog_6_method_23_code
def yX4_renameUser : MethodName := ⟨RX4, "renameUser", "(III)V"⟩
abbrev cX4_isMember : ByteArray := prog_6_method_24_code
def yX4_isMember : MethodName := ⟨RX4, "isMember", "(III)Z"⟩
abbrev cX4_isOperator : ByteArray := prog_6_method_25_code
def yX4_isOperator : MethodName := ⟨RX4, "isOperator", "(III)Z"⟩
abbrev cX4_addMember : ByteArray := prog_6_method_26_code
def yX4_addMember : MethodName := ⟨RX4, "addMember", "(III)V"⟩
abbrev cX4_addOperator : ByteArray := prog_6_method_27_code
def yX4_addOperator : MethodName := ⟨RX4, "addOperator", "(III)V"⟩
abbrev cX4_removeMember : ByteArray := prog_6_method_28_code
def yX4_removeMember : MethodName := ⟨RX4, "removeMember", "(III)V"⟩
abbrev cX4_membersIn : ByteArray := prog_6_method_29_code
def yX4_membersIn : MethodName := ⟨RX4, "membersIn", "(II)I"⟩
abbrev cX4_operatorsIn : ByteArray := prog_6_method_30_code
def yX4_operatorsIn : MethodName := ⟨RX4, "operatorsIn", "(II)I"⟩
abbrev cX4_unionOf : ByteArray := prog_6_method_31_code
def yX4_unionOf : MethodName := ⟨RX4, "unionOf", "([III)I"⟩
abbrev cX4_setOperators : ByteArray := prog_6_method_32_code
def yX4_setOperators : MethodName := ⟨RX4, "setOperators", "(III)V"⟩
abbrev cX4_hasChannel : ByteArray := prog_6_method_33_code
def yX4_hasChannel : MethodName := ⟨RX4, "hasChannel", "(II)Z"⟩
abbrev cX4_timeOfChannel : ByteArray := prog_6_method_34_code
def yX4_timeOfChannel : MethodName := ⟨RX4, "timeOfChannel", "(II)I"⟩
abbrev cX4_modesOfChannel : ByteArray := prog_6_method_35_code
def yX4_modesOfChannel : MethodName := ⟨RX4, "modesOfChannel", "(II)I"⟩
abbrev cX4_describeChannel : ByteArray := prog_6_method_36_code
def yX4_describeChannel : MethodName := ⟨RX4, "describeChannel", "(IIII)V"⟩
abbrev cX4_countMessages : ByteArray := prog_6_method_37_code
def yX4_countMessages : MethodName := ⟨RX4, "countMessages", "(I)I"⟩
def RX5 : String := "RelayNetwork"
def TX5 : u_T := fun k => match k with
  | 0 => ("RelayNetwork", "state", "LRelayNetwork$State;", true)
  | 1 => ("RelayNetwork", "history", "LRelayNetwork$History;", true)
  | 2 => ("RelayNetwork", "text", "LRelayNetwork$ModeText;", true)
  | _ => ("RelayNetwork", "plans", "LRelayNetwork$PlanSearch;", true)
def tyX5 : Nat → FieldType := fun k => match k with
  | 0 => .object "RelayNetwork$State"
  | 1 => .object "RelayNetwork$History"
  | 2 => .object "RelayNetwork$ModeText"
  | _ => .object "RelayNetwork$PlanSearch"
theorem nmX5 : ∀ a, a < 4 → ∀ b, b < 4 → a ≠ b → (TX5 a).2.1 ≠ (TX5 b).2.1 := by decide +kernel
theorem tyX5_ok : ∀ k, k < 4 → parseFieldDescriptor (TX5 k).2.2.1 = some (tyX5 k) := by decide +kernel
abbrev cX5_init : ByteArray := prog_1_method_1_code
def yX5_init : MethodName := ⟨RX5, "<init>", "()V"⟩
abbrev cX5_createServers : ByteArray := prog_1_method_2_code
def yX5_createServers : MethodName := ⟨RX5, "createServers", "(I)I"⟩
abbrev cX5_connect : ByteArray := prog_1_method_3_code
def yX5_connect : MethodName := ⟨RX5, "connect", "(II)I"⟩
abbrev cX5_disconnect : ByteArray := prog_1_method_4_code
def yX5_disconnect : MethodName := ⟨RX5, "disconnect", "(II)I"⟩
abbrev cX5_advance : ByteArray := prog_1_method_5_code
def yX5_advance : MethodName := ⟨RX5, "advance", "(I)I"⟩
abbrev cX5_time : ByteArray := prog_1_method_6_code
def yX5_time : MethodName := ⟨RX5, "time", "()I"⟩
abbrev cX5_hops : ByteArray := prog_1_method_7_code
def yX5_hops : MethodName := ⟨RX5, "hops", "(II)I"⟩
abbrev cX5_signOn : ByteArray := prog_1_method_8_code
def yX5_signOn : MethodName := ⟨RX5, "signOn", "(II)I"⟩
abbrev cX5_signOff : ByteArray := prog_1_method_9_code
def yX5_signOff : MethodName := ⟨RX5, "signOff", "(II)I"⟩
abbrev cX5_changeNick : ByteArray := prog_1_method_10_code
def yX5_changeNick : MethodName := ⟨RX5, "changeNick", "(III)I"⟩
abbrev cX5_homeServer : ByteArray := prog_1_method_11_code
def yX5_homeServer : MethodName := ⟨RX5, "homeServer", "(II)I"⟩
abbrev cX5_userTimestamp : ByteArray := prog_1_method_12_code
def yX5_userTimestamp : MethodName := ⟨RX5, "userTimestamp", "(II)I"⟩
abbrev cX5_visibleUsers : ByteArray := prog_1_method_13_code
def yX5_visibleUsers : MethodName := ⟨RX5, "visibleUsers", "(I)I"⟩
abbrev cX5_join : ByteArray := prog_1_method_14_code
def yX5_join : MethodName := ⟨RX5, "join", "(III)I"⟩
abbrev cX5_part : ByteArray := prog_1_method_15_code
def yX5_part : MethodName := ⟨RX5, "part", "(III)I"⟩
abbrev cX5_kick : ByteArray := prog_1_method_16_code
def yX5_kick : MethodName := ⟨RX5, "kick", "(IIII)I"⟩
abbrev cX5_leaveChannel : ByteArray := prog_1_method_17_code
def yX5_leaveChannel : MethodName := ⟨RX5, "leaveChannel", "(III)I"⟩
abbrev cX5_appendCharacter : ByteArray := prog_1_method_18_code
def yX5_appendCharacter : MethodName := ⟨RX5, "appendCharacter", "(I)I"⟩
abbrev cX5_clearText : ByteArray := prog_1_method_19_code
def yX5_clearText : MethodName := ⟨RX5, "clearText", "()I"⟩
abbrev cX5_applyModes : ByteArray := prog_1_method_20_code
def yX5_applyModes : MethodName := ⟨RX5, "applyModes", "(III)I"⟩
abbrev cX5_members : ByteArray := prog_1_method_21_code
def yX5_members : MethodName := ⟨RX5, "members", "(II)I"⟩
abbrev cX5_operators : ByteArray := prog_1_method_22_code
def yX5_operators : MethodName := ⟨RX5, "operators", "(II)I"⟩
abbrev cX5_modes : ByteArray := prog_1_method_23_code
def yX5_modes : MethodName := ⟨RX5, "modes", "(II)I"⟩
abbrev cX5_channelTimestamp : ByteArray := prog_1_method_24_code
def yX5_channelTimestamp : MethodName := ⟨RX5, "channelTimestamp", "(II)I"⟩
abbrev cX5_lastDeprived : ByteArray := prog_1_method_25_code
def yX5_lastDeprived : MethodName := ⟨RX5, "lastDeprived", "()I"⟩
abbrev cX5_lastDropped : ByteArray := prog_1_method_26_code
def yX5_lastDropped : MethodName := ⟨RX5, "lastDropped", "()I"⟩
abbrev cX5_burstSize : ByteArray := prog_1_method_27_code
def yX5_burstSize : MethodName := ⟨RX5, "burstSize", "(II)I"⟩
abbrev cX5_killsIfConnected : ByteArray := prog_1_method_28_code
def yX5_killsIfConnected : MethodName := ⟨RX5, "killsIfConnected", "(II)I"⟩
abbrev cX5_lostIfDisconnected : ByteArray := prog_1_method_29_code
def yX5_lostIfDisconnected : MethodName := ⟨RX5, "lostIfDisconnected", "(II)I"⟩
abbrev cX5_fewestKills : ByteArray := prog_1_method_30_code
def yX5_fewestKills : MethodName := ⟨RX5, "fewestKills", "()I"⟩
abbrev cX5_bestFirstLink : ByteArray := prog_1_method_31_code
def yX5_bestFirstLink : MethodName := ⟨RX5, "bestFirstLink", "()I"⟩
abbrev cX5_undo : ByteArray := prog_1_method_32_code
def yX5_undo : MethodName := ⟨RX5, "undo", "()I"⟩
abbrev cX5_isNick : ByteArray := prog_1_method_33_code
def yX5_isNick : MethodName := ⟨RX5, "isNick", "(I)Z"⟩
abbrev cX5_isChannel : ByteArray := prog_1_method_34_code
def yX5_isChannel : MethodName := ⟨RX5, "isChannel", "(I)Z"⟩
abbrev cX5_hasBit : ByteArray := prog_1_method_35_code
def yX5_hasBit : MethodName := ⟨RX5, "hasBit", "(II)Z"⟩
abbrev cX5_withBit : ByteArray := prog_1_method_36_code
def yX5_withBit : MethodName := ⟨RX5, "withBit", "(IIZ)I"⟩
def RX6 : String := "RelayNetworkModel"
def TX6 : u_T := fun k => match k with
  | 0 => ("RelayNetworkModel", "now", "[I", true)
  | 1 => ("RelayNetworkModel", "history", "[I", true)
  | 2 => ("RelayNetworkModel", "undoable", "I", false)
  | 3 => ("RelayNetworkModel", "text", "[I", true)
  | 4 => ("RelayNetworkModel", "length", "I", false)
  | 5 => ("RelayNetworkModel", "items", "I", false)
  | 6 => ("RelayNetworkModel", "groups", "[I", true)
  | 7 => ("RelayNetworkModel", "representatives", "[I", true)
  | 8 => ("RelayNetworkModel", "firstOf", "[I", true)
  | 9 => ("RelayNetworkModel", "secondOf", "[I", true)
  | 10 => ("RelayNetworkModel", "killsAt", "[I", true)
  | 11 => ("RelayNetworkModel", "leastKills", "I", false)
  | _ => ("RelayNetworkModel", "bestPair", "I", false)
def tyX6 : Nat → FieldType := fun k => match k with
  | 0 => .array .int
  | 1 => .array .int
  | 2 => .int
  | 3 => .array .int
  | 4 => .int
  | 5 => .int
  | 6 => .array .int
  | 7 => .array .int
  | 8 => .array .int
  | 9 => .array .int
  | 10 => .array .int
  | 11 => .int
  | _ => .int
theorem nmX6 : ∀ a, a < 13 → ∀ b, b < 13 → a ≠ b → (TX6 a).2.1 ≠ (TX6 b).2.1 := by decide +kernel
theorem tyX6_ok : ∀ k, k < 13 → parseFieldDescriptor (TX6 k).2.2.1 = some (tyX6 k) := by decide +kernel
abbrev cX6_init : ByteArray := prog_8_method_1_code
def yX6_init : MethodName := ⟨RX6, "<init>", "()V"⟩
abbrev cX6_in : ByteArray := prog_8_method_2_code
def yX6_in : MethodName := ⟨RX6, "in", "(III)Z"⟩
abbrev cX6_has : ByteArray := prog_8_method_3_code
def yX6_has : MethodName := ⟨RX6, "has", "(II)Z"⟩
abbrev cX6_bitCount : ByteArray := prog_8_method_4_code
def yX6_bitCount : MethodName := ⟨RX6, "bitCount", "(I)I"⟩
abbrev cX6_reset : ByteArray := prog_8_method_5_code
def yX6_reset : MethodName := ⟨RX6, "reset", "(I)V"⟩
abbrev cX6_save : ByteArray := prog_8_method_6_code
def yX6_save : MethodName := ⟨RX6, "save", "()V"⟩
abbrev cX6_undo : ByteArray := prog_8_method_7_code
def yX6_undo : MethodName := ⟨RX6, "undo", "()I"⟩
abbrev cX6_isServer : ByteArray := prog_8_method_8_code
def yX6_isServer : MethodName := ⟨RX6, "isServer", "(I)Z"⟩
abbrev cX6_areServers : ByteArray := prog_8_method_9_code
def yX6_areServers : MethodName := ⟨RX6, "areServers", "(II)Z"⟩
abbrev cX6_isNick : ByteArray := prog_8_method_10_code
def yX6_isNick : MethodName := ⟨RX6, "isNick", "(I)Z"⟩
abbrev cX6_isChannel : ByteArray := prog_8_method_11_code
def yX6_isChannel : MethodName := ⟨RX6, "isChannel", "(I)Z"⟩
abbrev cX6_network : ByteArray := prog_8_method_12_code
def yX6_network : MethodName := ⟨RX6, "network", "(I)I"⟩
abbrev cX6_areConnected : ByteArray := prog_8_method_13_code
def yX6_areConnected : MethodName := ⟨RX6, "areConnected", "(II)Z"⟩
abbrev cX6_areLinked : ByteArray := prog_8_method_14_code
def yX6_areLinked : MethodName := ⟨RX6, "areLinked", "(II)Z"⟩
abbrev cX6_setLink : ByteArray := prog_8_method_15_code
def yX6_setLink : MethodName := ⟨RX6, "setLink", "(IIZ)V"⟩
abbrev cX6_userCell : ByteArray := prog_8_method_16_code
def yX6_userCell : MethodName := ⟨RX6, "userCell", "(II)I"⟩
abbrev cX6_isUser : ByteArray := prog_8_method_17_code
def yX6_isUser : MethodName := ⟨RX6, "isUser", "(II)Z"⟩
abbrev cX6_homeIn : ByteArray := prog_8_method_18_code
def yX6_homeIn : MethodName := ⟨RX6, "homeIn", "(II)I"⟩
abbrev cX6_nicksIn : ByteArray := prog_8_method_19_code
def yX6_nicksIn : MethodName := ⟨RX6, "nicksIn", "(III)I"⟩
abbrev cX6_membersIn : ByteArray := prog_8_method_20_code
def yX6_membersIn : MethodName := ⟨RX6, "membersIn", "(II)I"⟩
abbrev cX6_removeUser : ByteArray := prog_8_method_21_code
def yX6_removeUser : MethodName := ⟨RX6, "removeUser", "(II)V"⟩
abbrev cX6_createServers : ByteArray := prog_8_method_22_code
def yX6_createServers : MethodName := ⟨RX6, "createServers", "(I)I"⟩
abbrev cX6_setChannel : ByteArray := prog_8_method_23_code
def yX6_setChannel : MethodName := ⟨RX6, "setChannel", "(IIII)V"⟩
abbrev cX6_mergeNicks : ByteArray := prog_8_method_24_code
def yX6_mergeNicks : MethodName := ⟨RX6, "mergeNicks", "(II)I"⟩
abbrev cX6_depriveAll : ByteArray := prog_8_method_25_code
def yX6_depriveAll : MethodName := ⟨RX6, "depriveAll", "(II)V"⟩
abbrev cX6_mergeChannel : ByteArray := prog_8_method_26_code
def yX6_mergeChannel : MethodName := ⟨RX6, "mergeChannel", "(III)V"⟩
abbrev cX6_connect : ByteArray := prog_8_method_27_code
def yX6_connect : MethodName := ⟨RX6, "connect", "(II)I"⟩
abbrev cX6_disconnect : ByteArray := prog_8_method_28_code
def yX6_disconnect : MethodName := ⟨RX6, "disconnect", "(II)I"⟩
abbrev cX6_advance : ByteArray := prog_8_method_29_code
def yX6_advance : MethodName := ⟨RX6, "advance", "(I)I"⟩
abbrev cX6_time : ByteArray := prog_8_method_30_code
def yX6_time : MethodName := ⟨RX6, "time", "()I"⟩
abbrev cX6_hops : ByteArray := prog_8_method_31_code
def yX6_hops : MethodName := ⟨RX6, "hops", "(II)I"⟩
abbrev cX6_isPlace : ByteArray := prog_8_method_32_code
def yX6_isPlace : MethodName := ⟨RX6, "isPlace", "(II)Z"⟩
abbrev cX6_signOn : ByteArray := prog_8_method_33_code
def yX6_signOn : MethodName := ⟨RX6, "signOn", "(II)I"⟩
abbrev cX6_signOff : ByteArray := prog_8_method_34_code
def yX6_signOff : MethodName := ⟨RX6, "signOff", "(II)I"⟩
abbrev cX6_changeNick : ByteArray := prog_8_method_35_code
def yX6_changeNick : MethodName := ⟨RX6, "changeNick", "(III)I"⟩
abbrev cX6_homeServer : ByteArray := prog_8_method_36_code
def yX6_homeServer : MethodName := ⟨RX6, "homeServer", "(II)I"⟩
abbrev cX6_userTimestamp : ByteArray := prog_8_method_37_code
def yX6_userTimestamp : MethodName := ⟨RX6, "userTimestamp", "(II)I"⟩
abbrev cX6_visibleUsers : ByteArray := prog_8_method_38_code
def yX6_visibleUsers : MethodName := ⟨RX6, "visibleUsers", "(I)I"⟩
abbrev cX6_isMember : ByteArray := prog_8_method_39_code
def yX6_isMember : MethodName := ⟨RX6, "isMember", "(III)Z"⟩
abbrev cX6_isOperator : ByteArray := prog_8_method_40_code
def yX6_isOperator : MethodName := ⟨RX6, "isOperator", "(III)Z"⟩
abbrev cX6_memberCount : ByteArray := prog_8_method_41_code
def yX6_memberCount : MethodName := ⟨RX6, "memberCount", "(II)I"⟩
abbrev cX6_join : ByteArray := prog_8_method_42_code
def yX6_join : MethodName := ⟨RX6, "join", "(III)I"⟩
abbrev cX6_leave : ByteArray := prog_8_method_43_code
def yX6_leave : MethodName := ⟨RX6, "leave", "(III)V"⟩
abbrev cX6_part : ByteArray := prog_8_method_44_code
def yX6_part : MethodName := ⟨RX6, "part", "(III)I"⟩
abbrev cX6_kick : ByteArray := prog_8_method_45_code
def yX6_kick : MethodName := ⟨RX6, "kick", "(IIII)I"⟩
abbrev cX6_appendCharacter : ByteArray := prog_8_method_46_code
def yX6_appendCharacter : MethodName := ⟨RX6, "appendCharacter", "(I)I"⟩
abbrev cX6_clearText : ByteArray := prog_8_method_47_code
def yX6_clearText : MethodName := ⟨RX6, "clearText", "()I"⟩
abbrev cX6_modeOf : ByteArray := prog_8_method_48_code
def yX6_modeOf : MethodName := ⟨RX6, "modeOf", "(I)I"⟩
abbrev cX6_isSign : ByteArray := prog_8_method_49_code
def yX6_isSign : MethodName := ⟨RX6, "isSign", "(I)Z"⟩
abbrev cX6_check : ByteArray := prog_8_method_50_code
def yX6_check : MethodName := ⟨RX6, "check", "(I)I"⟩
abbrev cX6_setOperator : ByteArray := prog_8_method_51_code
def yX6_setOperator : MethodName := ⟨RX6, "setOperator", "(IIIZ)V"⟩
abbrev cX6_applyText : ByteArray := prog_8_method_52_code
def yX6_applyText : MethodName := ⟨RX6, "applyText", "(II)V"⟩
abbrev cX6_applyModes : ByteArray := prog_8_method_53_code
def yX6_applyModes : MethodName := ⟨RX6, "applyModes", "(III)I"⟩
abbrev cX6_members : ByteArray := prog_8_method_54_code
def yX6_members : MethodName := ⟨RX6, "members", "(II)I"⟩
abbrev cX6_operators : ByteArray := prog_8_method_55_code
def yX6_operators : MethodName := ⟨RX6, "operators", "(II)I"⟩
abbrev cX6_valueOf : ByteArray := prog_8_method_56_code
def yX6_valueOf : MethodName := ⟨RX6, "valueOf", "(III)I"⟩
abbrev cX6_modes : ByteArray := prog_8_method_57_code
def yX6_modes : MethodName := ⟨RX6, "modes", "(II)I"⟩
abbrev cX6_channelTimestamp : ByteArray := prog_8_method_58_code
def yX6_channelTimestamp : MethodName := ⟨RX6, "channelTimestamp", "(II)I"⟩
abbrev cX6_lastDeprived : ByteArray := prog_8_method_59_code
def yX6_lastDeprived : MethodName := ⟨RX6, "lastDeprived", "()I"⟩
abbrev cX6_lastDropped : ByteArray := prog_8_method_60_code
def yX6_lastDropped : MethodName := ⟨RX6, "lastDropped", "()I"⟩
abbrev cX6_burstOf : ByteArray := prog_8_method_61_code
def yX6_burstOf : MethodName := ⟨RX6, "burstOf", "(I)I"⟩
abbrev cX6_forecastError : ByteArray := prog_8_method_62_code
def yX6_forecastError : MethodName := ⟨RX6, "forecastError", "(II)I"⟩
abbrev cX6_burstSize : ByteArray := prog_8_method_63_code
def yX6_burstSize : MethodName := ⟨RX6, "burstSize", "(II)I"⟩
abbrev cX6_killsIfConnected : ByteArray := prog_8_method_64_code
def yX6_killsIfConnected : MethodName := ⟨RX6, "killsIfConnected", "(II)I"⟩
abbrev cX6_usersOutside : ByteArray := prog_8_method_65_code
def yX6_usersOutside : MethodName := ⟨RX6, "usersOutside", "(I)I"⟩
abbrev cX6_lostIfDisconnected : ByteArray := prog_8_method_66_code
def yX6_lostIfDisconnected : MethodName := ⟨RX6, "lostIfDisconnected", "(II)I"⟩
abbrev cX6_groupCell : ByteArray := prog_8_method_67_code
def yX6_groupCell : MethodName := ⟨RX6, "groupCell", "(II)I"⟩
abbrev cX6_readGroup : ByteArray := prog_8_method_68_code
def yX6_readGroup : MethodName := ⟨RX6, "readGroup", "(II)V"⟩
abbrev cX6_mergeGroups : ByteArray := prog_8_method_69_code
def yX6_mergeGroups : MethodName := ⟨RX6, "mergeGroups", "(III)I"⟩
abbrev cX6_readGroups : ByteArray := prog_8_method_70_code
def yX6_readGroups : MethodName := ⟨RX6, "readGroups", "()I"⟩
abbrev cX6_descend : ByteArray := prog_8_method_71_code
def yX6_descend : MethodName := ⟨RX6, "descend", "(II)V"⟩
abbrev cX6_nextPair : ByteArray := prog_8_method_72_code
def yX6_nextPair : MethodName := ⟨RX6, "nextPair", "(II)Z"⟩
abbrev cX6_searchPlans : ByteArray := prog_8_method_73_code
def yX6_searchPlans : MethodName := ⟨RX6, "searchPlans", "()V"⟩
abbrev cX6_fewestKills : ByteArray := prog_8_method_74_code
def yX6_fewestKills : MethodName := ⟨RX6, "fewestKills", "()I"⟩
abbrev cX6_bestFirstLink : ByteArray := prog_8_method_75_code
def yX6_bestFirstLink : MethodName := ⟨RX6, "bestFirstLink", "()I"⟩
def RJx145de : String := "java/io/Serializable"
def RJx9f9b0 : String := "java/lang/CharSequence"
def RJ11 : String := "java/lang/Character"
abbrev cJ11_isValidCodePoint_9a6ad : ByteArray := prog_9_method_11_code
def yJ11_isValidCodePoint_9a6ad : MethodName := ⟨RJ11, "isValidCodePoint", "(I)Z"⟩
abbrev cJ11_highSurrogate_5068e : ByteArray := prog_9_method_28_code
def yJ11_highSurrogate_5068e : MethodName := ⟨RJ11, "highSurrogate", "(I)C"⟩
abbrev cJ11_lowSurrogate_5068e : ByteArray := prog_9_method_29_code
def yJ11_lowSurrogate_5068e : MethodName := ⟨RJ11, "lowSurrogate", "(I)C"⟩
def RJxb160c : String := "java/lang/Comparable"
def RJ6 : String := "java/lang/Integer"
abbrev cJ6_bitCount_0f7a4 : ByteArray := prog_10_method_49_code
def yJ6_bitCount_0f7a4 : MethodName := ⟨RJ6, "bitCount", "(I)I"⟩
def RJ9 : String := "java/lang/Math"
abbrev cJ9_max_7cf53 : ByteArray := prog_11_method_65_code
def yJ9_max_7cf53 : MethodName := ⟨RJ9, "max", "(II)I"⟩
abbrev cJ9_min_7cf53 : ByteArray := prog_11_method_69_code
def yJ9_min_7cf53 : MethodName := ⟨RJ9, "min", "(II)I"⟩
def RJ0 : String := "java/lang/String"
abbrev cJ0_length_8abf5 : ByteArray := prog_12_method_54_code
def yJ0_length_8abf5 : MethodName := ⟨RJ0, "length", "()I"⟩
abbrev cJ0_indexOf_0f7a4 : ByteArray := prog_12_method_79_code
def yJ0_indexOf_0f7a4 : MethodName := ⟨RJ0, "indexOf", "(I)I"⟩
abbrev cJ0_indexOf_7cf53 : ByteArray := prog_12_method_80_code
def yJ0_indexOf_7cf53 : MethodName := ⟨RJ0, "indexOf", "(II)I"⟩
abbrev cJ0_coder_7d493 : ByteArray := prog_12_method_152_code
def yJ0_coder_7d493 : MethodName := ⟨RJ0, "coder", "()B"⟩
abbrev cJ0_isLatin1_aae02 : ByteArray := prog_12_method_154_code
def yJ0_isLatin1_aae02 : MethodName := ⟨RJ0, "isLatin1", "()Z"⟩
abbrev cJ0_checkBoundsBeginEnd_23922 : ByteArray := prog_12_method_158_code
def yJ0_checkBoundsBeginEnd_23922 : MethodName := ⟨RJ0, "checkBoundsBeginEnd", "(III)V"⟩
def RJ1 : String := "java/lang/StringLatin1"
abbrev cJ1_canEncode_9a6ad : ByteArray := prog_13_method_4_code
def yJ1_canEncode_9a6ad : MethodName := ⟨RJ1, "canEncode", "(I)Z"⟩
abbrev cJ1_indexOf_4cfef : ByteArray := prog_13_method_22_code
def yJ1_indexOf_4cfef : MethodName := ⟨RJ1, "indexOf", "([BIII)I"⟩
abbrev cJ1_indexOfChar_4cfef : ByteArray := prog_13_method_23_code
def yJ1_indexOfChar_4cfef : MethodName := ⟨RJ1, "indexOfChar", "([BIII)I"⟩
def RJ2 : String := "java/lang/StringUTF16"
abbrev cJ2_getChar_3b067 : ByteArray := prog_14_method_5_code
def yJ2_getChar_3b067 : MethodName := ⟨RJ2, "getChar", "([BI)C"⟩
abbrev cJ2_length_9d52b : ByteArray := prog_14_method_6_code
def yJ2_length_9d52b : MethodName := ⟨RJ2, "length", "([B)I"⟩
abbrev cJ2_indexOf_4cfef : ByteArray := prog_14_method_40_code
def yJ2_indexOf_4cfef : MethodName := ⟨RJ2, "indexOf", "([BIII)I"⟩
abbrev cJ2_indexOfChar_4cfef : ByteArray := prog_14_method_47_code
def yJ2_indexOfChar_4cfef : MethodName := ⟨RJ2, "indexOfChar", "([BIII)I"⟩
abbrev cJ2_indexOfCharUnsafe_4cfef : ByteArray := prog_14_method_48_code
def yJ2_indexOfCharUnsafe_4cfef : MethodName := ⟨RJ2, "indexOfCharUnsafe", "([BIII)I"⟩
abbrev cJ2_indexOfSupplementary_4cfef : ByteArray := prog_14_method_49_code
def yJ2_indexOfSupplementary_4cfef : MethodName := ⟨RJ2, "indexOfSupplementary", "([BIII)I"⟩
abbrev cJ2_checkBoundsBeginEnd_d044e : ByteArray := prog_14_method_93_code
def yJ2_checkBoundsBeginEnd_d044e : MethodName := ⟨RJ2, "checkBoundsBeginEnd", "(II[B)V"⟩
def RJ10 : String := "java/lang/System"
def RJxfd54e : String := "java/lang/constant/Constable"
def RJx3cf43 : String := "java/lang/constant/ConstantDesc"
def RJ7 : String := "java/util/Arrays"
abbrev cJ7_fill_53178 : ByteArray := prog_16_method_103_code
def yJ7_fill_53178 : MethodName := ⟨RJ7, "fill", "([II)V"⟩
def RJ3 : String := "jdk/internal/util/Preconditions"
abbrev cJ3_checkFromToIndex_8c36e : ByteArray := prog_17_method_12_code
def yJ3_checkFromToIndex_8c36e : MethodName := ⟨RJ3, "checkFromToIndex", "(IIILjava/util/function/BiFunction;)I"⟩
def RL : String := "RelayNetworkLaw"
abbrev cL_law : ByteArray := code
abbrev vwCl : List vw_C := [(RX0, TX0, 3), (RX2, TX2, 2), (RX3, TX3, 5), (RX4, TX4, 10), (RX5, TX5, 4), (RX6, TX6, 13)]
