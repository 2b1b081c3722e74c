section
-- ===== PART A: goes FIRST, ahead of the names: the tables' words, and 'selects' of the private methods out of them =====
/-- a private method of a class that the tables say can be made, by its rows of tables_1 -/
def lw_okq (q : MethodName × Nat) : Prop := (q.1.cls ≠ "java/lang/invoke/MethodHandle" ∧ q.1.cls ≠ "java/lang/invoke/VarHandle") ∧ Cond.instantiable q.1.cls q.2 ∈ tables_1 ∧ Cond.privateMethod q.1 ∈ tables_1 ∧ Cond.instanceMethod q.1 ∈ tables_1
theorem lw_p0 : lw_okq (⟨"HoleTickets$History", "row", "(I)LHoleTickets$State;"⟩, 3) := ⟨⟨by decide +kernel, by decide +kernel⟩, List.mem_of_getElem? (i := 68) (by decide +kernel), List.mem_of_getElem? (i := 152) (by decide +kernel), List.mem_of_getElem? (i := 153) (by decide +kernel)⟩
theorem lw_p1 : lw_okq (⟨"HoleTickets$Move", "send", "(II)V"⟩, 2) := ⟨⟨by decide +kernel, by decide +kernel⟩, List.mem_of_getElem? (i := 25) (by decide +kernel), List.mem_of_getElem? (i := 180) (by decide +kernel), List.mem_of_getElem? (i := 181) (by decide +kernel)⟩
theorem lw_p2 : lw_okq (⟨"HoleTickets$MoveText", "startReading", "()V"⟩, 10) := ⟨⟨by decide +kernel, by decide +kernel⟩, List.mem_of_getElem? (i := 87) (by decide +kernel), List.mem_of_getElem? (i := 223) (by decide +kernel), List.mem_of_getElem? (i := 224) (by decide +kernel)⟩
theorem lw_p3 : lw_okq (⟨"HoleTickets$MoveText", "faultOf", "(C)I"⟩, 10) := ⟨⟨by decide +kernel, by decide +kernel⟩, List.mem_of_getElem? (i := 87) (by decide +kernel), List.mem_of_getElem? (i := 227) (by decide +kernel), List.mem_of_getElem? (i := 228) (by decide +kernel)⟩
theorem lw_p4 : lw_okq (⟨"HoleTickets$MoveText", "startRound", "(C)I"⟩, 10) := ⟨⟨by decide +kernel, by decide +kernel⟩, List.mem_of_getElem? (i := 87) (by decide +kernel), List.mem_of_getElem? (i := 231) (by decide +kernel), List.mem_of_getElem? (i := 232) (by decide +kernel)⟩
theorem lw_p5 : lw_okq (⟨"HoleTickets$MoveText", "startPlace", "(C)I"⟩, 10) := ⟨⟨by decide +kernel, by decide +kernel⟩, List.mem_of_getElem? (i := 87) (by decide +kernel), List.mem_of_getElem? (i := 235) (by decide +kernel), List.mem_of_getElem? (i := 236) (by decide +kernel)⟩
theorem lw_p6 : lw_okq (⟨"HoleTickets$MoveText", "lengthenPlace", "(C)I"⟩, 10) := ⟨⟨by decide +kernel, by decide +kernel⟩, List.mem_of_getElem? (i := 87) (by decide +kernel), List.mem_of_getElem? (i := 242) (by decide +kernel), List.mem_of_getElem? (i := 243) (by decide +kernel)⟩
theorem lw_p7 : lw_okq (⟨"HoleTickets$MoveText", "endPlace", "(C)I"⟩, 10) := ⟨⟨by decide +kernel, by decide +kernel⟩, List.mem_of_getElem? (i := 87) (by decide +kernel), List.mem_of_getElem? (i := 246) (by decide +kernel), List.mem_of_getElem? (i := 247) (by decide +kernel)⟩
theorem lw_p8 : lw_okq (⟨"HoleTickets$MoveText", "send", "(II)V"⟩, 10) := ⟨⟨by decide +kernel, by decide +kernel⟩, List.mem_of_getElem? (i := 87) (by decide +kernel), List.mem_of_getElem? (i := 251) (by decide +kernel), List.mem_of_getElem? (i := 252) (by decide +kernel)⟩
theorem lw_p9 : lw_okq (⟨"HoleTickets$MoveText", "faultOfEnd", "()I"⟩, 10) := ⟨⟨by decide +kernel, by decide +kernel⟩, List.mem_of_getElem? (i := 87) (by decide +kernel), List.mem_of_getElem? (i := 257) (by decide +kernel), List.mem_of_getElem? (i := 258) (by decide +kernel)⟩
theorem lw_p10 : lw_okq (⟨"HoleTickets$State", "ticketsWithHoles", "(I)I"⟩, 9) := ⟨⟨by decide +kernel, by decide +kernel⟩, List.mem_of_getElem? (i := 19) (by decide +kernel), List.mem_of_getElem? (i := 530) (by decide +kernel), List.mem_of_getElem? (i := 531) (by decide +kernel)⟩
theorem lw_p11 : lw_okq (⟨"HoleTickets$State", "commonHoles", "(I)I"⟩, 9) := ⟨⟨by decide +kernel, by decide +kernel⟩, List.mem_of_getElem? (i := 19) (by decide +kernel), List.mem_of_getElem? (i := 543) (by decide +kernel), List.mem_of_getElem? (i := 544) (by decide +kernel)⟩
theorem lw_p12 : lw_okq (⟨"HoleTicketsModel", "records", "()V"⟩, 14) := ⟨⟨by decide +kernel, by decide +kernel⟩, List.mem_of_getElem? (i := 590) (by decide +kernel), List.mem_of_getElem? (i := 649) (by decide +kernel), List.mem_of_getElem? (i := 650) (by decide +kernel)⟩
theorem lw_p13 : lw_okq (⟨"HoleTicketsModel", "order", "()I"⟩, 14) := ⟨⟨by decide +kernel, by decide +kernel⟩, List.mem_of_getElem? (i := 590) (by decide +kernel), List.mem_of_getElem? (i := 653) (by decide +kernel), List.mem_of_getElem? (i := 654) (by decide +kernel)⟩
theorem lw_p14 : lw_okq (⟨"HoleTicketsModel", "longOf", "(I)I"⟩, 14) := ⟨⟨by decide +kernel, by decide +kernel⟩, List.mem_of_getElem? (i := 590) (by decide +kernel), List.mem_of_getElem? (i := 657) (by decide +kernel), List.mem_of_getElem? (i := 658) (by decide +kernel)⟩
theorem lw_p15 : lw_okq (⟨"HoleTicketsModel", "sourceOf", "(I)I"⟩, 14) := ⟨⟨by decide +kernel, by decide +kernel⟩, List.mem_of_getElem? (i := 590) (by decide +kernel), List.mem_of_getElem? (i := 665) (by decide +kernel), List.mem_of_getElem? (i := 666) (by decide +kernel)⟩
def lw_privs_1 : List (MethodName × Nat) := [(⟨"HoleTickets$History", "row", "(I)LHoleTickets$State;"⟩, 3), (⟨"HoleTickets$Move", "send", "(II)V"⟩, 2), (⟨"HoleTickets$MoveText", "startReading", "()V"⟩, 10), (⟨"HoleTickets$MoveText", "faultOf", "(C)I"⟩, 10), (⟨"HoleTickets$MoveText", "startRound", "(C)I"⟩, 10), (⟨"HoleTickets$MoveText", "startPlace", "(C)I"⟩, 10), (⟨"HoleTickets$MoveText", "lengthenPlace", "(C)I"⟩, 10), (⟨"HoleTickets$MoveText", "endPlace", "(C)I"⟩, 10), (⟨"HoleTickets$MoveText", "send", "(II)V"⟩, 10), (⟨"HoleTickets$MoveText", "faultOfEnd", "()I"⟩, 10), (⟨"HoleTickets$State", "ticketsWithHoles", "(I)I"⟩, 9), (⟨"HoleTickets$State", "commonHoles", "(I)I"⟩, 9), (⟨"HoleTicketsModel", "records", "()V"⟩, 14), (⟨"HoleTicketsModel", "order", "()I"⟩, 14), (⟨"HoleTicketsModel", "longOf", "(I)I"⟩, 14), (⟨"HoleTicketsModel", "sourceOf", "(I)I"⟩, 14)]
theorem lw_r1 : ∀ q ∈ lw_privs_1, lw_okq q := List.forall_mem_cons.mpr ⟨lw_p0, List.forall_mem_cons.mpr ⟨lw_p1, List.forall_mem_cons.mpr ⟨lw_p2, List.forall_mem_cons.mpr ⟨lw_p3, List.forall_mem_cons.mpr ⟨lw_p4, List.forall_mem_cons.mpr ⟨lw_p5, List.forall_mem_cons.mpr ⟨lw_p6, List.forall_mem_cons.mpr ⟨lw_p7, List.forall_mem_cons.mpr ⟨lw_p8, List.forall_mem_cons.mpr ⟨lw_p9, List.forall_mem_cons.mpr ⟨lw_p10, List.forall_mem_cons.mpr ⟨lw_p11, List.forall_mem_cons.mpr ⟨lw_p12, List.forall_mem_cons.mpr ⟨lw_p13, List.forall_mem_cons.mpr ⟨lw_p14, List.forall_mem_cons.mpr ⟨lw_p15, fun _ h => absurd h List.not_mem_nil⟩⟩⟩⟩⟩⟩⟩⟩⟩⟩⟩⟩⟩⟩⟩⟩
theorem lw_p16 : lw_okq (⟨"HoleTicketsModel", "takes", "()V"⟩, 14) := ⟨⟨by decide +kernel, by decide +kernel⟩, List.mem_of_getElem? (i := 590) (by decide +kernel), List.mem_of_getElem? (i := 669) (by decide +kernel), List.mem_of_getElem? (i := 670) (by decide +kernel)⟩
theorem lw_p17 : lw_okq (⟨"HoleTicketsModel", "isMove", "()Z"⟩, 14) := ⟨⟨by decide +kernel, by decide +kernel⟩, List.mem_of_getElem? (i := 590) (by decide +kernel), List.mem_of_getElem? (i := 685) (by decide +kernel), List.mem_of_getElem? (i := 686) (by decide +kernel)⟩
theorem lw_p18 : lw_okq (⟨"HoleTicketsModel", "round", "()V"⟩, 14) := ⟨⟨by decide +kernel, by decide +kernel⟩, List.mem_of_getElem? (i := 590) (by decide +kernel), List.mem_of_getElem? (i := 689) (by decide +kernel), List.mem_of_getElem? (i := 690) (by decide +kernel)⟩
theorem lw_p19 : lw_okq (⟨"HoleTicketsModel", "isAt", "(C)Z"⟩, 14) := ⟨⟨by decide +kernel, by decide +kernel⟩, List.mem_of_getElem? (i := 590) (by decide +kernel), List.mem_of_getElem? (i := 693) (by decide +kernel), List.mem_of_getElem? (i := 694) (by decide +kernel)⟩
theorem lw_p20 : lw_okq (⟨"HoleTicketsModel", "fails", "()V"⟩, 14) := ⟨⟨by decide +kernel, by decide +kernel⟩, List.mem_of_getElem? (i := 590) (by decide +kernel), List.mem_of_getElem? (i := 697) (by decide +kernel), List.mem_of_getElem? (i := 698) (by decide +kernel)⟩
theorem lw_p21 : lw_okq (⟨"HoleTicketsModel", "reads", "()V"⟩, 14) := ⟨⟨by decide +kernel, by decide +kernel⟩, List.mem_of_getElem? (i := 590) (by decide +kernel), List.mem_of_getElem? (i := 701) (by decide +kernel), List.mem_of_getElem? (i := 702) (by decide +kernel)⟩
theorem lw_p22 : lw_okq (⟨"HoleTicketsModel", "isDigit", "()Z"⟩, 14) := ⟨⟨by decide +kernel, by decide +kernel⟩, List.mem_of_getElem? (i := 590) (by decide +kernel), List.mem_of_getElem? (i := 705) (by decide +kernel), List.mem_of_getElem? (i := 706) (by decide +kernel)⟩
theorem lw_p23 : lw_okq (⟨"HoleTicketsModel", "isTicket", "(I)Z"⟩, 14) := ⟨⟨by decide +kernel, by decide +kernel⟩, List.mem_of_getElem? (i := 590) (by decide +kernel), List.mem_of_getElem? (i := 725) (by decide +kernel), List.mem_of_getElem? (i := 726) (by decide +kernel)⟩
theorem lw_p24 : lw_okq (⟨"HoleTicketsModel", "isFalse", "(I)Z"⟩, 14) := ⟨⟨by decide +kernel, by decide +kernel⟩, List.mem_of_getElem? (i := 590) (by decide +kernel), List.mem_of_getElem? (i := 733) (by decide +kernel), List.mem_of_getElem? (i := 734) (by decide +kernel)⟩
theorem lw_p25 : lw_okq (⟨"HoleTicketsModel", "forward", "(I)I"⟩, 14) := ⟨⟨by decide +kernel, by decide +kernel⟩, List.mem_of_getElem? (i := 590) (by decide +kernel), List.mem_of_getElem? (i := 748) (by decide +kernel), List.mem_of_getElem? (i := 749) (by decide +kernel)⟩
theorem lw_p26 : lw_okq (⟨"HoleTicketsModel", "turns", "(II)V"⟩, 14) := ⟨⟨by decide +kernel, by decide +kernel⟩, List.mem_of_getElem? (i := 590) (by decide +kernel), List.mem_of_getElem? (i := 752) (by decide +kernel), List.mem_of_getElem? (i := 753) (by decide +kernel)⟩
theorem lw_p27 : lw_okq (⟨"HoleTicketsModel", "turned", "(II)I"⟩, 14) := ⟨⟨by decide +kernel, by decide +kernel⟩, List.mem_of_getElem? (i := 590) (by decide +kernel), List.mem_of_getElem? (i := 756) (by decide +kernel), List.mem_of_getElem? (i := 757) (by decide +kernel)⟩
theorem lw_p28 : lw_okq (⟨"HoleTicketsModel", "moved", "(I)I"⟩, 14) := ⟨⟨by decide +kernel, by decide +kernel⟩, List.mem_of_getElem? (i := 590) (by decide +kernel), List.mem_of_getElem? (i := 760) (by decide +kernel), List.mem_of_getElem? (i := 761) (by decide +kernel)⟩
theorem lw_p29 : lw_okq (⟨"HoleTicketsModel", "isOn", "(I)Z"⟩, 14) := ⟨⟨by decide +kernel, by decide +kernel⟩, List.mem_of_getElem? (i := 590) (by decide +kernel), List.mem_of_getElem? (i := 768) (by decide +kernel), List.mem_of_getElem? (i := 769) (by decide +kernel)⟩
theorem lw_p30 : lw_okq (⟨"HoleTicketsModel", "lowestOf", "(I)I"⟩, 14) := ⟨⟨by decide +kernel, by decide +kernel⟩, List.mem_of_getElem? (i := 590) (by decide +kernel), List.mem_of_getElem? (i := 792) (by decide +kernel), List.mem_of_getElem? (i := 793) (by decide +kernel)⟩
theorem lw_p31 : lw_okq (⟨"HoleTicketsModel", "withHole", "(I)I"⟩, 14) := ⟨⟨by decide +kernel, by decide +kernel⟩, List.mem_of_getElem? (i := 590) (by decide +kernel), List.mem_of_getElem? (i := 796) (by decide +kernel), List.mem_of_getElem? (i := 797) (by decide +kernel)⟩
def lw_privs_2 : List (MethodName × Nat) := [(⟨"HoleTicketsModel", "takes", "()V"⟩, 14), (⟨"HoleTicketsModel", "isMove", "()Z"⟩, 14), (⟨"HoleTicketsModel", "round", "()V"⟩, 14), (⟨"HoleTicketsModel", "isAt", "(C)Z"⟩, 14), (⟨"HoleTicketsModel", "fails", "()V"⟩, 14), (⟨"HoleTicketsModel", "reads", "()V"⟩, 14), (⟨"HoleTicketsModel", "isDigit", "()Z"⟩, 14), (⟨"HoleTicketsModel", "isTicket", "(I)Z"⟩, 14), (⟨"HoleTicketsModel", "isFalse", "(I)Z"⟩, 14), (⟨"HoleTicketsModel", "forward", "(I)I"⟩, 14), (⟨"HoleTicketsModel", "turns", "(II)V"⟩, 14), (⟨"HoleTicketsModel", "turned", "(II)I"⟩, 14), (⟨"HoleTicketsModel", "moved", "(I)I"⟩, 14), (⟨"HoleTicketsModel", "isOn", "(I)Z"⟩, 14), (⟨"HoleTicketsModel", "lowestOf", "(I)I"⟩, 14), (⟨"HoleTicketsModel", "withHole", "(I)I"⟩, 14)]
theorem lw_r2 : ∀ q ∈ lw_privs_2, lw_okq q := List.forall_mem_cons.mpr ⟨lw_p16, List.forall_mem_cons.mpr ⟨lw_p17, List.forall_mem_cons.mpr ⟨lw_p18, List.forall_mem_cons.mpr ⟨lw_p19, List.forall_mem_cons.mpr ⟨lw_p20, List.forall_mem_cons.mpr ⟨lw_p21, List.forall_mem_cons.mpr ⟨lw_p22, List.forall_mem_cons.mpr ⟨lw_p23, List.forall_mem_cons.mpr ⟨lw_p24, List.forall_mem_cons.mpr ⟨lw_p25, List.forall_mem_cons.mpr ⟨lw_p26, List.forall_mem_cons.mpr ⟨lw_p27, List.forall_mem_cons.mpr ⟨lw_p28, List.forall_mem_cons.mpr ⟨lw_p29, List.forall_mem_cons.mpr ⟨lw_p30, List.forall_mem_cons.mpr ⟨lw_p31, fun _ h => absurd h List.not_mem_nil⟩⟩⟩⟩⟩⟩⟩⟩⟩⟩⟩⟩⟩⟩⟩⟩
theorem lw_p32 : lw_okq (⟨"HoleTicketsModel", "rounds", "()I"⟩, 14) := ⟨⟨by decide +kernel, by decide +kernel⟩, List.mem_of_getElem? (i := 590) (by decide +kernel), List.mem_of_getElem? (i := 804) (by decide +kernel), List.mem_of_getElem? (i := 805) (by decide +kernel)⟩
theorem lw_p33 : lw_okq (⟨"HoleTicketsModel", "stays", "()I"⟩, 14) := ⟨⟨by decide +kernel, by decide +kernel⟩, List.mem_of_getElem? (i := 590) (by decide +kernel), List.mem_of_getElem? (i := 808) (by decide +kernel), List.mem_of_getElem? (i := 809) (by decide +kernel)⟩
theorem lw_p34 : lw_okq (⟨"HoleTicketsModel", "longest", "()I"⟩, 14) := ⟨⟨by decide +kernel, by decide +kernel⟩, List.mem_of_getElem? (i := 590) (by decide +kernel), List.mem_of_getElem? (i := 812) (by decide +kernel), List.mem_of_getElem? (i := 813) (by decide +kernel)⟩
theorem lw_p35 : lw_okq (⟨"HoleTicketsModel", "movesTo", "(III)I"⟩, 14) := ⟨⟨by decide +kernel, by decide +kernel⟩, List.mem_of_getElem? (i := 590) (by decide +kernel), List.mem_of_getElem? (i := 824) (by decide +kernel), List.mem_of_getElem? (i := 825) (by decide +kernel)⟩
theorem lw_p36 : lw_okq (⟨"HoleTicketsModel", "roundOf", "(I)I"⟩, 14) := ⟨⟨by decide +kernel, by decide +kernel⟩, List.mem_of_getElem? (i := 590) (by decide +kernel), List.mem_of_getElem? (i := 840) (by decide +kernel), List.mem_of_getElem? (i := 841) (by decide +kernel)⟩
theorem lw_p37 : lw_okq (⟨"HoleTicketsModel", "lit", "()I"⟩, 14) := ⟨⟨by decide +kernel, by decide +kernel⟩, List.mem_of_getElem? (i := 590) (by decide +kernel), List.mem_of_getElem? (i := 852) (by decide +kernel), List.mem_of_getElem? (i := 853) (by decide +kernel)⟩
theorem lw_p38 : lw_okq (⟨"HoleTicketsModel", "lightBut", "(I)I"⟩, 14) := ⟨⟨by decide +kernel, by decide +kernel⟩, List.mem_of_getElem? (i := 590) (by decide +kernel), List.mem_of_getElem? (i := 856) (by decide +kernel), List.mem_of_getElem? (i := 857) (by decide +kernel)⟩
theorem lw_p39 : lw_okq (⟨"HoleTicketsModel", "falseOnes", "()I"⟩, 14) := ⟨⟨by decide +kernel, by decide +kernel⟩, List.mem_of_getElem? (i := 590) (by decide +kernel), List.mem_of_getElem? (i := 868) (by decide +kernel), List.mem_of_getElem? (i := 869) (by decide +kernel)⟩
theorem lw_p40 : lw_okq (⟨"HoleTicketsModel", "allOf", "(I)I"⟩, 14) := ⟨⟨by decide +kernel, by decide +kernel⟩, List.mem_of_getElem? (i := 590) (by decide +kernel), List.mem_of_getElem? (i := 872) (by decide +kernel), List.mem_of_getElem? (i := 873) (by decide +kernel)⟩
def lw_privs_3 : List (MethodName × Nat) := [(⟨"HoleTicketsModel", "rounds", "()I"⟩, 14), (⟨"HoleTicketsModel", "stays", "()I"⟩, 14), (⟨"HoleTicketsModel", "longest", "()I"⟩, 14), (⟨"HoleTicketsModel", "movesTo", "(III)I"⟩, 14), (⟨"HoleTicketsModel", "roundOf", "(I)I"⟩, 14), (⟨"HoleTicketsModel", "lit", "()I"⟩, 14), (⟨"HoleTicketsModel", "lightBut", "(I)I"⟩, 14), (⟨"HoleTicketsModel", "falseOnes", "()I"⟩, 14), (⟨"HoleTicketsModel", "allOf", "(I)I"⟩, 14)]
theorem lw_r3 : ∀ q ∈ lw_privs_3, lw_okq q := List.forall_mem_cons.mpr ⟨lw_p32, List.forall_mem_cons.mpr ⟨lw_p33, List.forall_mem_cons.mpr ⟨lw_p34, List.forall_mem_cons.mpr ⟨lw_p35, List.forall_mem_cons.mpr ⟨lw_p36, List.forall_mem_cons.mpr ⟨lw_p37, List.forall_mem_cons.mpr ⟨lw_p38, List.forall_mem_cons.mpr ⟨lw_p39, List.forall_mem_cons.mpr ⟨lw_p40, fun _ h => absurd h List.not_mem_nil⟩⟩⟩⟩⟩⟩⟩⟩⟩
def lw_privs : List (MethodName × Nat) := lw_privs_1 ++ (lw_privs_2 ++ (lw_privs_3))
def lw_tbl : List Cond := k2_sels lw_privs ++ tables_1
theorem lw_privs_ok : ∀ q ∈ lw_privs, lw_okq q := by
  show ∀ q ∈ lw_privs_1 ++ (lw_privs_2 ++ (lw_privs_3)), lw_okq q
  exact List.forall_mem_append.mpr ⟨lw_r1, List.forall_mem_append.mpr ⟨lw_r2, lw_r3⟩⟩
end
section
def RX0 : String := "HoleTickets$History"
def TX0 : u_T := fun k => match k with
  | 0 => ("HoleTickets$History", "rows", "[LHoleTickets$State;", true)
  | 1 => ("HoleTickets$History", "next", "I", false)
  | _ => ("HoleTickets$History", "size", "I", false)
def tyX0 : Nat → FieldType := fun k => match k with
  | 0 => .array (.object "HoleTickets$State")
  | 1 => .int
  | _ => .int
abbrev wsX00 : List Cond := u_ws RX0 TX0 3
theorem nmX0 : ∀ a, a < 3 → ∀ b, b < 3 → a ≠ b → (TX0 a).2.1 ≠ (TX0 b).2.1 := by decide +kernel
theorem tyX0_ok : ∀ k, k < 3 → parseFieldDescriptor (TX0 k).2.2.1 = some (tyX0 k) := by decide +kernel
abbrev cX0_init : ByteArray := prog_2_method_1_code
def yX0_init : MethodName := ⟨RX0, "<init>", "()V"⟩
abbrev cX0_size : ByteArray := prog_2_method_2_code
def yX0_size : MethodName := ⟨RX0, "size", "()I"⟩
abbrev cX0_record : ByteArray := prog_2_method_3_code
def yX0_record : MethodName := ⟨RX0, "record", "(LHoleTickets$State;)V"⟩
abbrev cX0_takeLatest : ByteArray := prog_2_method_4_code
def yX0_takeLatest : MethodName := ⟨RX0, "takeLatest", "(LHoleTickets$State;)V"⟩
abbrev cX0_row : ByteArray := prog_2_method_5_code
def yX0_row : MethodName := ⟨RX0, "row", "(I)LHoleTickets$State;"⟩
def RX1 : String := "HoleTickets$Move"
def TX1 : u_T := fun k => match k with
  | 0 => ("HoleTickets$Move", "targets", "[I", false)
  | _ => ("HoleTickets$Move", "sources", "[I", false)
def tyX1 : Nat → FieldType := fun k => match k with
  | 0 => .array .int
  | _ => .array .int
abbrev wsX10 : List Cond := u_ws RX1 TX1 2
theorem nmX1 : ∀ a, a < 2 → ∀ b, b < 2 → a ≠ b → (TX1 a).2.1 ≠ (TX1 b).2.1 := by decide +kernel
theorem tyX1_ok : ∀ k, k < 2 → parseFieldDescriptor (TX1 k).2.2.1 = some (tyX1 k) := by decide +kernel
abbrev cX1_init : ByteArray := prog_3_method_1_code
def yX1_init : MethodName := ⟨RX1, "<init>", "()V"⟩
abbrev cX1_copy : ByteArray := prog_3_method_2_code
def yX1_copy : MethodName := ⟨RX1, "copy", "(LHoleTickets$Move;)V"⟩
abbrev cX1_take : ByteArray := prog_3_method_3_code
def yX1_take : MethodName := ⟨RX1, "take", "(LHoleTickets$MoveText;)V"⟩
abbrev cX1_swapTargets : ByteArray := prog_3_method_4_code
def yX1_swapTargets : MethodName := ⟨RX1, "swapTargets", "(II)V"⟩
abbrev cX1_turnBack : ByteArray := prog_3_method_5_code
def yX1_turnBack : MethodName := ⟨RX1, "turnBack", "()V"⟩
abbrev cX1_send : ByteArray := prog_3_method_6_code
def yX1_send : MethodName := ⟨RX1, "send", "(II)V"⟩
abbrev cX1_target : ByteArray := prog_3_method_7_code
def yX1_target : MethodName := ⟨RX1, "target", "(I)I"⟩
abbrev cX1_source : ByteArray := prog_3_method_8_code
def yX1_source : MethodName := ⟨RX1, "source", "(I)I"⟩
abbrev cX1_round : ByteArray := prog_3_method_9_code
def yX1_round : MethodName := ⟨RX1, "round", "(I)I"⟩
abbrev cX1_order : ByteArray := prog_3_method_10_code
def yX1_order : MethodName := ⟨RX1, "order", "()I"⟩
abbrev cX1_rounds : ByteArray := prog_3_method_11_code
def yX1_rounds : MethodName := ⟨RX1, "rounds", "()I"⟩
abbrev cX1_fixedPlaces : ByteArray := prog_3_method_12_code
def yX1_fixedPlaces : MethodName := ⟨RX1, "fixedPlaces", "()I"⟩
abbrev cX1_longestRound : ByteArray := prog_3_method_13_code
def yX1_longestRound : MethodName := ⟨RX1, "longestRound", "()I"⟩
abbrev cX1_isEven : ByteArray := prog_3_method_14_code
def yX1_isEven : MethodName := ⟨RX1, "isEven", "()Z"⟩
abbrev cX1_leavesAll : ByteArray := prog_3_method_15_code
def yX1_leavesAll : MethodName := ⟨RX1, "leavesAll", "(I)Z"⟩
abbrev cX1_targetBehind : ByteArray := prog_3_method_16_code
def yX1_targetBehind : MethodName := ⟨RX1, "targetBehind", "(II)I"⟩
abbrev cX1_moved : ByteArray := prog_3_method_17_code
def yX1_moved : MethodName := ⟨RX1, "moved", "(I)I"⟩
abbrev cX1_movedBy : ByteArray := prog_3_method_18_code
def yX1_movedBy : MethodName := ⟨RX1, "movedBy", "(II)I"⟩
abbrev cX1_movesUntilSame : ByteArray := prog_3_method_19_code
def yX1_movesUntilSame : MethodName := ⟨RX1, "movesUntilSame", "(I)I"⟩
abbrev cX1_movesUntilAlike : ByteArray := prog_3_method_20_code
def yX1_movesUntilAlike : MethodName := ⟨RX1, "movesUntilAlike", "(II)I"⟩
abbrev cX1_movesUntilMeeting : ByteArray := prog_3_method_21_code
def yX1_movesUntilMeeting : MethodName := ⟨RX1, "movesUntilMeeting", "(II)I"⟩
abbrev cX1_hasLikeNumbersInRounds : ByteArray := prog_3_method_22_code
def yX1_hasLikeNumbersInRounds : MethodName := ⟨RX1, "hasLikeNumbersInRounds", "(II)Z"⟩
def RX2 : String := "HoleTickets$MoveText"
def TX2 : u_T := fun k => match k with
  | 0 => ("HoleTickets$MoveText", "characters", "[C", true)
  | 1 => ("HoleTickets$MoveText", "length", "I", false)
  | 2 => ("HoleTickets$MoveText", "targets", "[I", true)
  | 3 => ("HoleTickets$MoveText", "faultIndex", "I", false)
  | 4 => ("HoleTickets$MoveText", "faultKind", "I", false)
  | 5 => ("HoleTickets$MoveText", "awaited", "I", false)
  | 6 => ("HoleTickets$MoveText", "number", "I", false)
  | 7 => ("HoleTickets$MoveText", "came", "I", false)
  | 8 => ("HoleTickets$MoveText", "firstOfRound", "I", false)
  | _ => ("HoleTickets$MoveText", "lastOfRound", "I", false)
def tyX2 : Nat → FieldType := fun k => match k with
  | 0 => .array .char
  | 1 => .int
  | 2 => .array .int
  | 3 => .int
  | 4 => .int
  | 5 => .int
  | 6 => .int
  | 7 => .int
  | 8 => .int
  | _ => .int
abbrev wsX20 : List Cond := u_ws RX2 TX2 10
theorem nmX2 : ∀ a, a < 10 → ∀ b, b < 10 → a ≠ b → (TX2 a).2.1 ≠ (TX2 b).2.1 := by decide +kernel
theorem tyX2_ok : ∀ k, k < 10 → parseFieldDescriptor (TX2 k).2.2.1 = some (tyX2 k) := by decide +kernel
abbrev cX2_init : ByteArray := prog_4_method_1_code
def yX2_init : MethodName := ⟨RX2, "<init>", "()V"⟩
abbrev cX2_length : ByteArray := prog_4_method_2_code
def yX2_length : MethodName := ⟨RX2, "length", "()I"⟩
abbrev cX2_faultIndex : ByteArray := prog_4_method_3_code
def yX2_faultIndex : MethodName := ⟨RX2, "faultIndex", "()I"⟩
abbrev cX2_faultKind : ByteArray := prog_4_method_4_code
def yX2_faultKind : MethodName := ⟨RX2, "faultKind", "()I"⟩
abbrev cX2_target : ByteArray := prog_4_method_5_code
def yX2_target : MethodName := ⟨RX2, "target", "(I)I"⟩
abbrev cX2_append : ByteArray := prog_4_method_6_code
def yX2_append : MethodName := ⟨RX2, "append", "(C)V"⟩
abbrev cX2_empty : ByteArray := prog_4_method_7_code
def yX2_empty : MethodName := ⟨RX2, "empty", "()V"⟩
abbrev cX2_read : ByteArray := prog_4_method_8_code
def yX2_read : MethodName := ⟨RX2, "read", "()V"⟩
abbrev cX2_startReading : ByteArray := prog_4_method_9_code
def yX2_startReading : MethodName := ⟨RX2, "startReading", "()V"⟩
abbrev cX2_faultOf : ByteArray := prog_4_method_10_code
def yX2_faultOf : MethodName := ⟨RX2, "faultOf", "(C)I"⟩
abbrev cX2_faultOfEnd : ByteArray := prog_4_method_11_code
def yX2_faultOfEnd : MethodName := ⟨RX2, "faultOfEnd", "()I"⟩
abbrev cX2_startRound : ByteArray := prog_4_method_12_code
def yX2_startRound : MethodName := ⟨RX2, "startRound", "(C)I"⟩
abbrev cX2_startPlace : ByteArray := prog_4_method_13_code
def yX2_startPlace : MethodName := ⟨RX2, "startPlace", "(C)I"⟩
abbrev cX2_lengthenPlace : ByteArray := prog_4_method_14_code
def yX2_lengthenPlace : MethodName := ⟨RX2, "lengthenPlace", "(C)I"⟩
abbrev cX2_endPlace : ByteArray := prog_4_method_15_code
def yX2_endPlace : MethodName := ⟨RX2, "endPlace", "(C)I"⟩
abbrev cX2_send : ByteArray := prog_4_method_16_code
def yX2_send : MethodName := ⟨RX2, "send", "(II)V"⟩
abbrev cX2_isDigit : ByteArray := prog_4_method_17_code
def yX2_isDigit : MethodName := ⟨RX2, "isDigit", "(C)Z"⟩
def RX3 : String := "HoleTickets$State"
def TX3 : u_T := fun k => match k with
  | 0 => ("HoleTickets$State", "way", "LHoleTickets$Move;", true)
  | 1 => ("HoleTickets$State", "holes", "[I", true)
  | 2 => ("HoleTickets$State", "due", "[I", true)
  | 3 => ("HoleTickets$State", "turnedBy", "[I", true)
  | 4 => ("HoleTickets$State", "sold", "I", false)
  | 5 => ("HoleTickets$State", "stacked", "I", false)
  | 6 => ("HoleTickets$State", "punched", "I", false)
  | 7 => ("HoleTickets$State", "frauds", "I", false)
  | _ => ("HoleTickets$State", "turns", "I", false)
def tyX3 : Nat → FieldType := fun k => match k with
  | 0 => .object "HoleTickets$Move"
  | 1 => .array .int
  | 2 => .array .int
  | 3 => .array .int
  | 4 => .int
  | 5 => .int
  | 6 => .int
  | 7 => .int
  | _ => .int
abbrev wsX30 : List Cond := u_ws RX3 TX3 9
theorem nmX3 : ∀ a, a < 9 → ∀ b, b < 9 → a ≠ b → (TX3 a).2.1 ≠ (TX3 b).2.1 := by decide +kernel
theorem tyX3_ok : ∀ k, k < 9 → parseFieldDescriptor (TX3 k).2.2.1 = some (tyX3 k) := by decide +kernel
abbrev cX3_init : ByteArray := prog_5_method_1_code
def yX3_init : MethodName := ⟨RX3, "<init>", "()V"⟩
abbrev cX3_copy : ByteArray := prog_5_method_2_code
def yX3_copy : MethodName := ⟨RX3, "copy", "(LHoleTickets$State;)V"⟩
abbrev cX3_isTicket : ByteArray := prog_5_method_3_code
def yX3_isTicket : MethodName := ⟨RX3, "isTicket", "(I)Z"⟩
abbrev cX3_holes : ByteArray := prog_5_method_4_code
def yX3_holes : MethodName := ⟨RX3, "holes", "(I)I"⟩
abbrev cX3_due : ByteArray := prog_5_method_5_code
def yX3_due : MethodName := ⟨RX3, "due", "(I)I"⟩
abbrev cX3_turnedBy : ByteArray := prog_5_method_6_code
def yX3_turnedBy : MethodName := ⟨RX3, "turnedBy", "(I)I"⟩
abbrev cX3_sold : ByteArray := prog_5_method_7_code
def yX3_sold : MethodName := ⟨RX3, "sold", "()I"⟩
abbrev cX3_stacked : ByteArray := prog_5_method_8_code
def yX3_stacked : MethodName := ⟨RX3, "stacked", "()I"⟩
abbrev cX3_punched : ByteArray := prog_5_method_9_code
def yX3_punched : MethodName := ⟨RX3, "punched", "()I"⟩
abbrev cX3_frauds : ByteArray := prog_5_method_10_code
def yX3_frauds : MethodName := ⟨RX3, "frauds", "()I"⟩
abbrev cX3_turns : ByteArray := prog_5_method_11_code
def yX3_turns : MethodName := ⟨RX3, "turns", "()I"⟩
abbrev cX3_isFalse : ByteArray := prog_5_method_12_code
def yX3_isFalse : MethodName := ⟨RX3, "isFalse", "(I)Z"⟩
abbrev cX3_add : ByteArray := prog_5_method_13_code
def yX3_add : MethodName := ⟨RX3, "add", "(I)I"⟩
abbrev cX3_punchByRight : ByteArray := prog_5_method_14_code
def yX3_punchByRight : MethodName := ⟨RX3, "punchByRight", "(II)V"⟩
abbrev cX3_changeByFraud : ByteArray := prog_5_method_15_code
def yX3_changeByFraud : MethodName := ⟨RX3, "changeByFraud", "(II)V"⟩
abbrev cX3_makeRight : ByteArray := prog_5_method_16_code
def yX3_makeRight : MethodName := ⟨RX3, "makeRight", "(I)V"⟩
abbrev cX3_changeStack : ByteArray := prog_5_method_17_code
def yX3_changeStack : MethodName := ⟨RX3, "changeStack", "(I)V"⟩
abbrev cX3_turnTicket : ByteArray := prog_5_method_18_code
def yX3_turnTicket : MethodName := ⟨RX3, "turnTicket", "(II)V"⟩
abbrev cX3_turnStacked : ByteArray := prog_5_method_19_code
def yX3_turnStacked : MethodName := ⟨RX3, "turnStacked", "(I)V"⟩
abbrev cX3_ticketsWithHole : ByteArray := prog_5_method_20_code
def yX3_ticketsWithHole : MethodName := ⟨RX3, "ticketsWithHole", "(I)I"⟩
abbrev cX3_falseTickets : ByteArray := prog_5_method_21_code
def yX3_falseTickets : MethodName := ⟨RX3, "falseTickets", "()I"⟩
abbrev cX3_allHoles : ByteArray := prog_5_method_22_code
def yX3_allHoles : MethodName := ⟨RX3, "allHoles", "()I"⟩
abbrev cX3_allDue : ByteArray := prog_5_method_23_code
def yX3_allDue : MethodName := ⟨RX3, "allDue", "()I"⟩
abbrev cX3_kinOf : ByteArray := prog_5_method_24_code
def yX3_kinOf : MethodName := ⟨RX3, "kinOf", "(I)I"⟩
abbrev cX3_ticketsWithHoles : ByteArray := prog_5_method_25_code
def yX3_ticketsWithHoles : MethodName := ⟨RX3, "ticketsWithHoles", "(I)I"⟩
abbrev cX3_lightPlaces : ByteArray := prog_5_method_26_code
def yX3_lightPlaces : MethodName := ⟨RX3, "lightPlaces", "()I"⟩
abbrev cX3_bestPower : ByteArray := prog_5_method_27_code
def yX3_bestPower : MethodName := ⟨RX3, "bestPower", "(I)I"⟩
abbrev cX3_mostLight : ByteArray := prog_5_method_28_code
def yX3_mostLight : MethodName := ⟨RX3, "mostLight", "(I)I"⟩
abbrev cX3_commonHoles : ByteArray := prog_5_method_29_code
def yX3_commonHoles : MethodName := ⟨RX3, "commonHoles", "(I)I"⟩
def RX4 : String := "HoleTickets"
def TX4 : u_T := fun k => match k with
  | 0 => ("HoleTickets", "now", "LHoleTickets$State;", true)
  | 1 => ("HoleTickets", "kept", "LHoleTickets$State;", true)
  | 2 => ("HoleTickets", "isKept", "Z", false)
  | 3 => ("HoleTickets", "history", "LHoleTickets$History;", true)
  | _ => ("HoleTickets", "text", "LHoleTickets$MoveText;", true)
def tyX4 : Nat → FieldType := fun k => match k with
  | 0 => .object "HoleTickets$State"
  | 1 => .object "HoleTickets$State"
  | 2 => .boolean
  | 3 => .object "HoleTickets$History"
  | _ => .object "HoleTickets$MoveText"
abbrev wsX40 : List Cond := u_ws RX4 TX4 5
theorem nmX4 : ∀ a, a < 5 → ∀ b, b < 5 → a ≠ b → (TX4 a).2.1 ≠ (TX4 b).2.1 := by decide +kernel
theorem tyX4_ok : ∀ k, k < 5 → parseFieldDescriptor (TX4 k).2.2.1 = some (tyX4 k) := by decide +kernel
abbrev cX4_init : ByteArray := prog_1_method_1_code
def yX4_init : MethodName := ⟨RX4, "<init>", "()V"⟩
abbrev cX4_exchange : ByteArray := prog_1_method_2_code
def yX4_exchange : MethodName := ⟨RX4, "exchange", "(II)I"⟩
abbrev cX4_reverse : ByteArray := prog_1_method_3_code
def yX4_reverse : MethodName := ⟨RX4, "reverse", "()I"⟩
abbrev cX4_readMove : ByteArray := prog_1_method_4_code
def yX4_readMove : MethodName := ⟨RX4, "readMove", "()I"⟩
abbrev cX4_sell : ByteArray := prog_1_method_5_code
def yX4_sell : MethodName := ⟨RX4, "sell", "(I)I"⟩
abbrev cX4_punch : ByteArray := prog_1_method_6_code
def yX4_punch : MethodName := ⟨RX4, "punch", "(II)I"⟩
abbrev cX4_forge : ByteArray := prog_1_method_7_code
def yX4_forge : MethodName := ⟨RX4, "forge", "(IIZ)I"⟩
abbrev cX4_mend : ByteArray := prog_1_method_8_code
def yX4_mend : MethodName := ⟨RX4, "mend", "(I)I"⟩
abbrev cX4_turn : ByteArray := prog_1_method_9_code
def yX4_turn : MethodName := ⟨RX4, "turn", "(II)I"⟩
abbrev cX4_stack : ByteArray := prog_1_method_10_code
def yX4_stack : MethodName := ⟨RX4, "stack", "(IZ)I"⟩
abbrev cX4_turnStack : ByteArray := prog_1_method_11_code
def yX4_turnStack : MethodName := ⟨RX4, "turnStack", "(I)I"⟩
abbrev cX4_type : ByteArray := prog_1_method_12_code
def yX4_type : MethodName := ⟨RX4, "type", "(C)I"⟩
abbrev cX4_clearText : ByteArray := prog_1_method_13_code
def yX4_clearText : MethodName := ⟨RX4, "clearText", "()I"⟩
abbrev cX4_fault : ByteArray := prog_1_method_14_code
def yX4_fault : MethodName := ⟨RX4, "fault", "(I)I"⟩
abbrev cX4_undo : ByteArray := prog_1_method_15_code
def yX4_undo : MethodName := ⟨RX4, "undo", "()I"⟩
abbrev cX4_keep : ByteArray := prog_1_method_16_code
def yX4_keep : MethodName := ⟨RX4, "keep", "()I"⟩
abbrev cX4_restore : ByteArray := prog_1_method_17_code
def yX4_restore : MethodName := ⟨RX4, "restore", "()I"⟩
abbrev cX4_place : ByteArray := prog_1_method_18_code
def yX4_place : MethodName := ⟨RX4, "place", "(II)I"⟩
abbrev cX4_move : ByteArray := prog_1_method_19_code
def yX4_move : MethodName := ⟨RX4, "move", "(I)I"⟩
abbrev cX4_power : ByteArray := prog_1_method_20_code
def yX4_power : MethodName := ⟨RX4, "power", "(II)I"⟩
abbrev cX4_ticket : ByteArray := prog_1_method_21_code
def yX4_ticket : MethodName := ⟨RX4, "ticket", "(II)I"⟩
abbrev cX4_alikeIn : ByteArray := prog_1_method_22_code
def yX4_alikeIn : MethodName := ⟨RX4, "alikeIn", "(II)I"⟩
abbrev cX4_meetsIn : ByteArray := prog_1_method_23_code
def yX4_meetsIn : MethodName := ⟨RX4, "meetsIn", "(II)I"⟩
abbrev cX4_reason : ByteArray := prog_1_method_24_code
def yX4_reason : MethodName := ⟨RX4, "reason", "(II)I"⟩
abbrev cX4_kin : ByteArray := prog_1_method_25_code
def yX4_kin : MethodName := ⟨RX4, "kin", "(I)I"⟩
abbrev cX4_light : ByteArray := prog_1_method_26_code
def yX4_light : MethodName := ⟨RX4, "light", "()I"⟩
abbrev cX4_bestTurn : ByteArray := prog_1_method_27_code
def yX4_bestTurn : MethodName := ⟨RX4, "bestTurn", "(II)I"⟩
abbrev cX4_count : ByteArray := prog_1_method_28_code
def yX4_count : MethodName := ⟨RX4, "count", "(I)I"⟩
abbrev cX4_isPlace : ByteArray := prog_1_method_29_code
def yX4_isPlace : MethodName := ⟨RX4, "isPlace", "(I)Z"⟩
abbrev cX4_isPower : ByteArray := prog_1_method_30_code
def yX4_isPower : MethodName := ⟨RX4, "isPower", "(I)Z"⟩
abbrev cX4_asNumber : ByteArray := prog_1_method_31_code
def yX4_asNumber : MethodName := ⟨RX4, "asNumber", "(Z)I"⟩
abbrev cX4_only : ByteArray := prog_1_method_32_code
def yX4_only : MethodName := ⟨RX4, "only", "(I)I"⟩
abbrev cX4_has : ByteArray := prog_1_method_33_code
def yX4_has : MethodName := ⟨RX4, "has", "(II)Z"⟩
abbrev cX4_lowest : ByteArray := prog_1_method_34_code
def yX4_lowest : MethodName := ⟨RX4, "lowest", "(I)I"⟩
abbrev cX4_leastCommonMultiple : ByteArray := prog_1_method_35_code
def yX4_leastCommonMultiple : MethodName := ⟨RX4, "leastCommonMultiple", "(II)I"⟩
def RX5 : String := "HoleTicketsModel"
def TX5 : u_T := fun k => match k with
  | 0 => ("HoleTicketsModel", "s", "[I", true)
  | 1 => ("HoleTicketsModel", "past", "[I", true)
  | 2 => ("HoleTicketsModel", "pasts", "I", false)
  | 3 => ("HoleTicketsModel", "snapshot", "[I", true)
  | 4 => ("HoleTicketsModel", "isKept", "Z", false)
  | 5 => ("HoleTicketsModel", "text", "[C", true)
  | 6 => ("HoleTicketsModel", "length", "I", false)
  | 7 => ("HoleTicketsModel", "made", "[I", true)
  | 8 => ("HoleTicketsModel", "spot", "I", false)
  | 9 => ("HoleTicketsModel", "kind", "I", false)
  | 10 => ("HoleTicketsModel", "came", "I", false)
  | 11 => ("HoleTicketsModel", "first", "I", false)
  | 12 => ("HoleTicketsModel", "last", "I", false)
  | _ => ("HoleTicketsModel", "inRound", "I", false)
def tyX5 : Nat → FieldType := fun k => match k with
  | 0 => .array .int
  | 1 => .array .int
  | 2 => .int
  | 3 => .array .int
  | 4 => .boolean
  | 5 => .array .char
  | 6 => .int
  | 7 => .array .int
  | 8 => .int
  | 9 => .int
  | 10 => .int
  | 11 => .int
  | 12 => .int
  | _ => .int
abbrev wsX50 : List Cond := u_ws RX5 TX5 14
theorem nmX5 : ∀ a, a < 14 → ∀ b, b < 14 → a ≠ b → (TX5 a).2.1 ≠ (TX5 b).2.1 := by decide +kernel
theorem tyX5_ok : ∀ k, k < 14 → parseFieldDescriptor (TX5 k).2.2.1 = some (tyX5 k) := by decide +kernel
abbrev cX5_init : ByteArray := prog_7_method_1_code
def yX5_init : MethodName := ⟨RX5, "<init>", "()V"⟩
abbrev cX5_in : ByteArray := prog_7_method_3_code
def yX5_in : MethodName := ⟨RX5, "in", "(III)Z"⟩
abbrev cX5_isPlace : ByteArray := prog_7_method_4_code
def yX5_isPlace : MethodName := ⟨RX5, "isPlace", "(I)Z"⟩
abbrev cX5_isTicket : ByteArray := prog_7_method_5_code
def yX5_isTicket : MethodName := ⟨RX5, "isTicket", "(I)Z"⟩
abbrev cX5_isPower : ByteArray := prog_7_method_6_code
def yX5_isPower : MethodName := ⟨RX5, "isPower", "(I)Z"⟩
abbrev cX5_ones : ByteArray := prog_7_method_7_code
def yX5_ones : MethodName := ⟨RX5, "ones", "(I)I"⟩
abbrev cX5_records : ByteArray := prog_7_method_8_code
def yX5_records : MethodName := ⟨RX5, "records", "()V"⟩
abbrev cX5_longOf : ByteArray := prog_7_method_9_code
def yX5_longOf : MethodName := ⟨RX5, "longOf", "(I)I"⟩
abbrev cX5_lowestOf : ByteArray := prog_7_method_10_code
def yX5_lowestOf : MethodName := ⟨RX5, "lowestOf", "(I)I"⟩
abbrev cX5_roundOf : ByteArray := prog_7_method_11_code
def yX5_roundOf : MethodName := ⟨RX5, "roundOf", "(I)I"⟩
abbrev cX5_sourceOf : ByteArray := prog_7_method_12_code
def yX5_sourceOf : MethodName := ⟨RX5, "sourceOf", "(I)I"⟩
abbrev cX5_order : ByteArray := prog_7_method_13_code
def yX5_order : MethodName := ⟨RX5, "order", "()I"⟩
abbrev cX5_moved : ByteArray := prog_7_method_14_code
def yX5_moved : MethodName := ⟨RX5, "moved", "(I)I"⟩
abbrev cX5_forward : ByteArray := prog_7_method_15_code
def yX5_forward : MethodName := ⟨RX5, "forward", "(I)I"⟩
abbrev cX5_turned : ByteArray := prog_7_method_16_code
def yX5_turned : MethodName := ⟨RX5, "turned", "(II)I"⟩
abbrev cX5_exchange : ByteArray := prog_7_method_17_code
def yX5_exchange : MethodName := ⟨RX5, "exchange", "(II)I"⟩
abbrev cX5_takes : ByteArray := prog_7_method_18_code
def yX5_takes : MethodName := ⟨RX5, "takes", "()V"⟩
abbrev cX5_reverse : ByteArray := prog_7_method_19_code
def yX5_reverse : MethodName := ⟨RX5, "reverse", "()I"⟩
abbrev cX5_type : ByteArray := prog_7_method_20_code
def yX5_type : MethodName := ⟨RX5, "type", "(C)I"⟩
abbrev cX5_clearText : ByteArray := prog_7_method_21_code
def yX5_clearText : MethodName := ⟨RX5, "clearText", "()I"⟩
abbrev cX5_isAt : ByteArray := prog_7_method_22_code
def yX5_isAt : MethodName := ⟨RX5, "isAt", "(C)Z"⟩
abbrev cX5_isDigit : ByteArray := prog_7_method_23_code
def yX5_isDigit : MethodName := ⟨RX5, "isDigit", "()Z"⟩
abbrev cX5_fails : ByteArray := prog_7_method_24_code
def yX5_fails : MethodName := ⟨RX5, "fails", "()V"⟩
abbrev cX5_reads : ByteArray := prog_7_method_25_code
def yX5_reads : MethodName := ⟨RX5, "reads", "()V"⟩
abbrev cX5_round : ByteArray := prog_7_method_26_code
def yX5_round : MethodName := ⟨RX5, "round", "()V"⟩
abbrev cX5_isMove : ByteArray := prog_7_method_27_code
def yX5_isMove : MethodName := ⟨RX5, "isMove", "()Z"⟩
abbrev cX5_readMove : ByteArray := prog_7_method_28_code
def yX5_readMove : MethodName := ⟨RX5, "readMove", "()I"⟩
abbrev cX5_fault : ByteArray := prog_7_method_29_code
def yX5_fault : MethodName := ⟨RX5, "fault", "(I)I"⟩
abbrev cX5_sell : ByteArray := prog_7_method_30_code
def yX5_sell : MethodName := ⟨RX5, "sell", "(I)I"⟩
abbrev cX5_punch : ByteArray := prog_7_method_31_code
def yX5_punch : MethodName := ⟨RX5, "punch", "(II)I"⟩
abbrev cX5_isFalse : ByteArray := prog_7_method_32_code
def yX5_isFalse : MethodName := ⟨RX5, "isFalse", "(I)Z"⟩
abbrev cX5_forge : ByteArray := prog_7_method_33_code
def yX5_forge : MethodName := ⟨RX5, "forge", "(IIZ)I"⟩
abbrev cX5_mend : ByteArray := prog_7_method_34_code
def yX5_mend : MethodName := ⟨RX5, "mend", "(I)I"⟩
abbrev cX5_turns : ByteArray := prog_7_method_35_code
def yX5_turns : MethodName := ⟨RX5, "turns", "(II)V"⟩
abbrev cX5_turn : ByteArray := prog_7_method_36_code
def yX5_turn : MethodName := ⟨RX5, "turn", "(II)I"⟩
abbrev cX5_isOn : ByteArray := prog_7_method_37_code
def yX5_isOn : MethodName := ⟨RX5, "isOn", "(I)Z"⟩
abbrev cX5_stack : ByteArray := prog_7_method_38_code
def yX5_stack : MethodName := ⟨RX5, "stack", "(IZ)I"⟩
abbrev cX5_turnStack : ByteArray := prog_7_method_39_code
def yX5_turnStack : MethodName := ⟨RX5, "turnStack", "(I)I"⟩
abbrev cX5_undo : ByteArray := prog_7_method_40_code
def yX5_undo : MethodName := ⟨RX5, "undo", "()I"⟩
abbrev cX5_keep : ByteArray := prog_7_method_41_code
def yX5_keep : MethodName := ⟨RX5, "keep", "()I"⟩
abbrev cX5_restore : ByteArray := prog_7_method_42_code
def yX5_restore : MethodName := ⟨RX5, "restore", "()I"⟩
abbrev cX5_withHole : ByteArray := prog_7_method_43_code
def yX5_withHole : MethodName := ⟨RX5, "withHole", "(I)I"⟩
abbrev cX5_place : ByteArray := prog_7_method_44_code
def yX5_place : MethodName := ⟨RX5, "place", "(II)I"⟩
abbrev cX5_rounds : ByteArray := prog_7_method_45_code
def yX5_rounds : MethodName := ⟨RX5, "rounds", "()I"⟩
abbrev cX5_stays : ByteArray := prog_7_method_46_code
def yX5_stays : MethodName := ⟨RX5, "stays", "()I"⟩
abbrev cX5_longest : ByteArray := prog_7_method_47_code
def yX5_longest : MethodName := ⟨RX5, "longest", "()I"⟩
abbrev cX5_move : ByteArray := prog_7_method_48_code
def yX5_move : MethodName := ⟨RX5, "move", "(I)I"⟩
abbrev cX5_power : ByteArray := prog_7_method_49_code
def yX5_power : MethodName := ⟨RX5, "power", "(II)I"⟩
abbrev cX5_movesTo : ByteArray := prog_7_method_50_code
def yX5_movesTo : MethodName := ⟨RX5, "movesTo", "(III)I"⟩
abbrev cX5_ticket : ByteArray := prog_7_method_51_code
def yX5_ticket : MethodName := ⟨RX5, "ticket", "(II)I"⟩
abbrev cX5_alikeIn : ByteArray := prog_7_method_52_code
def yX5_alikeIn : MethodName := ⟨RX5, "alikeIn", "(II)I"⟩
abbrev cX5_meetsIn : ByteArray := prog_7_method_53_code
def yX5_meetsIn : MethodName := ⟨RX5, "meetsIn", "(II)I"⟩
abbrev cX5_reason : ByteArray := prog_7_method_54_code
def yX5_reason : MethodName := ⟨RX5, "reason", "(II)I"⟩
abbrev cX5_kin : ByteArray := prog_7_method_55_code
def yX5_kin : MethodName := ⟨RX5, "kin", "(I)I"⟩
abbrev cX5_lightBut : ByteArray := prog_7_method_56_code
def yX5_lightBut : MethodName := ⟨RX5, "lightBut", "(I)I"⟩
abbrev cX5_lit : ByteArray := prog_7_method_57_code
def yX5_lit : MethodName := ⟨RX5, "lit", "()I"⟩
abbrev cX5_light : ByteArray := prog_7_method_58_code
def yX5_light : MethodName := ⟨RX5, "light", "()I"⟩
abbrev cX5_bestTurn : ByteArray := prog_7_method_59_code
def yX5_bestTurn : MethodName := ⟨RX5, "bestTurn", "(II)I"⟩
abbrev cX5_allOf : ByteArray := prog_7_method_60_code
def yX5_allOf : MethodName := ⟨RX5, "allOf", "(I)I"⟩
abbrev cX5_falseOnes : ByteArray := prog_7_method_61_code
def yX5_falseOnes : MethodName := ⟨RX5, "falseOnes", "()I"⟩
abbrev cX5_count : ByteArray := prog_7_method_62_code
def yX5_count : MethodName := ⟨RX5, "count", "(I)I"⟩
def RJ6 : String := "java/lang/Integer"
def TJ6 : u_T := fun k => match k with
  | _ => ("", "", "", false)
def tyJ6 : Nat → FieldType := fun k => match k with
  | _ => .int
abbrev wsJ60 : List Cond := u_ws RJ6 TJ6 0
theorem nmJ6 : ∀ a, a < 0 → ∀ b, b < 0 → a ≠ b → (TJ6 a).2.1 ≠ (TJ6 b).2.1 := by decide +kernel
theorem tyJ6_ok : ∀ k, k < 0 → parseFieldDescriptor (TJ6 k).2.2.1 = some (tyJ6 k) := by decide +kernel
abbrev cJ6_bitCount_0f7a4 : ByteArray := prog_8_method_49_code
def yJ6_bitCount_0f7a4 : MethodName := ⟨RJ6, "bitCount", "(I)I"⟩
def RJ9 : String := "java/lang/Math"
def TJ9 : u_T := fun k => match k with
  | _ => ("", "", "", false)
def tyJ9 : Nat → FieldType := fun k => match k with
  | _ => .int
abbrev wsJ90 : List Cond := u_ws RJ9 TJ9 0
theorem nmJ9 : ∀ a, a < 0 → ∀ b, b < 0 → a ≠ b → (TJ9 a).2.1 ≠ (TJ9 b).2.1 := by decide +kernel
theorem tyJ9_ok : ∀ k, k < 0 → parseFieldDescriptor (TJ9 k).2.2.1 = some (tyJ9 k) := by decide +kernel
abbrev cJ9_floorMod_7cf53 : ByteArray := prog_9_method_50_code
def yJ9_floorMod_7cf53 : MethodName := ⟨RJ9, "floorMod", "(II)I"⟩
abbrev cJ9_max_7cf53 : ByteArray := prog_9_method_65_code
def yJ9_max_7cf53 : MethodName := ⟨RJ9, "max", "(II)I"⟩
abbrev cJ9_min_7cf53 : ByteArray := prog_9_method_69_code
def yJ9_min_7cf53 : MethodName := ⟨RJ9, "min", "(II)I"⟩
def RJ10 : String := "java/lang/System"
def TJ10 : u_T := fun k => match k with
  | _ => ("", "", "", false)
def tyJ10 : Nat → FieldType := fun k => match k with
  | _ => .int
abbrev wsJ100 : List Cond := u_ws RJ10 TJ10 0
theorem nmJ10 : ∀ a, a < 0 → ∀ b, b < 0 → a ≠ b → (TJ10 a).2.1 ≠ (TJ10 b).2.1 := by decide +kernel
theorem tyJ10_ok : ∀ k, k < 0 → parseFieldDescriptor (TJ10 k).2.2.1 = some (tyJ10 k) := by decide +kernel
def RL : String := "HoleTicketsLaw"
abbrev cL_law : ByteArray := code
def yL_law : MethodName := ⟨RL, "law", "([I)Z"⟩
abbrev vwCl : List vw_C := [(RX0, TX0, 3), (RX1, TX1, 2), (RX2, TX2, 10), (RX3, TX3, 9), (RX4, TX4, 5), (RX5, TX5, 14)]
end
section
def T0 : List Cond := lw_tbl.filter goodWord
theorem T0_good : ∀ w ∈ T0, goodWord w = true := fun _ h => (List.mem_filter.mp h).2
theorem mT {w : Cond} (i : Nat) (h : lw_tbl[i]? = some w) (g : goodWord w = true) : w ∈ T0 := List.mem_filter.mpr ⟨List.mem_of_getElem? h, g⟩
theorem T0_sub : ∀ w ∈ T0, w ∈ lw_tbl := fun _ h => (List.mem_filter.mp h).1
def wq (y : MethodName) (c : ByteArray) (n : Nat) (r : Option FieldType) : List Cond := Cond.code y c n r :: T0
theorem gIn {ws : List Cond} (h : ∀ w ∈ ws, w ∈ T0) : GoodIn T0 ws := fun w hw => ⟨h w hw, good_of_word (T0_good w (h w hw))⟩
theorem wq_in {y : MethodName} {c : ByteArray} {n : Nat} {r : Option FieldType} (h : Cond.code y c n r ∈ T0) : ∀ w ∈ wq y c n r, w ∈ T0 := fun w hw => (List.mem_cons.mp hw).elim (fun e => by rw [e]; exact h) id
/-- a method of an object: its code, its kind, that it is the one selected, its class made -/
def mIn (C : String) (y : MethodName) (c : ByteArray) (n : Nat) (r : Option FieldType) (k : Nat) : Prop := Cond.code y c n r ∈ T0 ∧ Cond.instanceMethod y ∈ T0 ∧ Cond.selects C y y ∈ T0 ∧ Cond.initialized C ∈ T0 ∧ (y.cls = C ∧ y.cls ≠ "java/lang/invoke/MethodHandle" ∧ y.cls ≠ "java/lang/invoke/VarHandle" ∧ (parseMethodDescriptor y.desc).map (fun d => d.parameters.length) = some k)
/-- a static method -/
def mSt (y : MethodName) (c : ByteArray) (n : Nat) (r : Option FieldType) (k : Nat) : Prop := Cond.code y c n r ∈ T0 ∧ Cond.static y ∈ T0 ∧ Cond.initialized y.cls ∈ T0 ∧ (y.cls ≠ "java/lang/invoke/MethodHandle" ∧ y.cls ≠ "java/lang/invoke/VarHandle" ∧ (parseMethodDescriptor y.desc).map (fun d => d.parameters.length) = some k)
/-- a constructor -/
def mCt (y : MethodName) (c : ByteArray) (n : Nat) (k : Nat) : Prop := Cond.code y c n none ∈ T0 ∧ Cond.instanceMethod y ∈ T0 ∧ Cond.initialized y.cls ∈ T0 ∧ y.name = "<init>" ∧ (y.cls ≠ "java/lang/invoke/MethodHandle" ∧ y.cls ≠ "java/lang/invoke/VarHandle" ∧ (parseMethodDescriptor y.desc).map (fun d => d.parameters.length) = some k)
theorem q0 : Cond.selects RX0 yX0_row yX0_row ∈ T0 := mT 0 (by decide +kernel) (by decide +kernel)
theorem q1 : Cond.selects RX1 yX1_send yX1_send ∈ T0 := mT 1 (by decide +kernel) (by decide +kernel)
theorem q2 : Cond.selects RX2 yX2_startReading yX2_startReading ∈ T0 := mT 2 (by decide +kernel) (by decide +kernel)
theorem q3 : Cond.selects RX2 yX2_faultOf yX2_faultOf ∈ T0 := mT 3 (by decide +kernel) (by decide +kernel)
theorem q4 : Cond.selects RX2 yX2_startRound yX2_startRound ∈ T0 := mT 4 (by decide +kernel) (by decide +kernel)
theorem q5 : Cond.selects RX2 yX2_startPlace yX2_startPlace ∈ T0 := mT 5 (by decide +kernel) (by decide +kernel)
theorem q6 : Cond.selects RX2 yX2_lengthenPlace yX2_lengthenPlace ∈ T0 := mT 6 (by decide +kernel) (by decide +kernel)
theorem q7 : Cond.selects RX2 yX2_endPlace yX2_endPlace ∈ T0 := mT 7 (by decide +kernel) (by decide +kernel)
theorem q8 : Cond.selects RX2 yX2_send yX2_send ∈ T0 := mT 8 (by decide +kernel) (by decide +kernel)
theorem q9 : Cond.selects RX2 yX2_faultOfEnd yX2_faultOfEnd ∈ T0 := mT 9 (by decide +kernel) (by decide +kernel)
theorem q10 : Cond.selects RX3 yX3_ticketsWithHoles yX3_ticketsWithHoles ∈ T0 := mT 10 (by decide +kernel) (by decide +kernel)
theorem q11 : Cond.selects RX3 yX3_commonHoles yX3_commonHoles ∈ T0 := mT 11 (by decide +kernel) (by decide +kernel)
theorem q12 : Cond.selects RX5 yX5_records yX5_records ∈ T0 := mT 12 (by decide +kernel) (by decide +kernel)
theorem q13 : Cond.selects RX5 yX5_order yX5_order ∈ T0 := mT 13 (by decide +kernel) (by decide +kernel)
theorem q14 : Cond.selects RX5 yX5_longOf yX5_longOf ∈ T0 := mT 14 (by decide +kernel) (by decide +kernel)
theorem q15 : Cond.selects RX5 yX5_sourceOf yX5_sourceOf ∈ T0 := mT 15 (by decide +kernel) (by decide +kernel)
theorem q16 : Cond.selects RX5 yX5_takes yX5_takes ∈ T0 := mT 16 (by decide +kernel) (by decide +kernel)
theorem q17 : Cond.selects RX5 yX5_isMove yX5_isMove ∈ T0 := mT 17 (by decide +kernel) (by decide +kernel)
theorem q18 : Cond.selects RX5 yX5_round yX5_round ∈ T0 := mT 18 (by decide +kernel) (by decide +kernel)
theorem q19 : Cond.selects RX5 yX5_isAt yX5_isAt ∈ T0 := mT 19 (by decide +kernel) (by decide +kernel)
theorem q20 : Cond.selects RX5 yX5_fails yX5_fails ∈ T0 := mT 20 (by decide +kernel) (by decide +kernel)
theorem q21 : Cond.selects RX5 yX5_reads yX5_reads ∈ T0 := mT 21 (by decide +kernel) (by decide +kernel)
theorem q22 : Cond.selects RX5 yX5_isDigit yX5_isDigit ∈ T0 := mT 22 (by decide +kernel) (by decide +kernel)
theorem q23 : Cond.selects RX5 yX5_isTicket yX5_isTicket ∈ T0 := mT 23 (by decide +kernel) (by decide +kernel)
theorem q24 : Cond.selects RX5 yX5_isFalse yX5_isFalse ∈ T0 := mT 24 (by decide +kernel) (by decide +kernel)
theorem q25 : Cond.selects RX5 yX5_forward yX5_forward ∈ T0 := mT 25 (by decide +kernel) (by decide +kernel)
theorem q26 : Cond.selects RX5 yX5_turns yX5_turns ∈ T0 := mT 26 (by decide +kernel) (by decide +kernel)
theorem q27 : Cond.selects RX5 yX5_turned yX5_turned ∈ T0 := mT 27 (by decide +kernel) (by decide +kernel)
theorem q28 : Cond.selects RX5 yX5_moved yX5_moved ∈ T0 := mT 28 (by decide +kernel) (by decide +kernel)
theorem q29 : Cond.selects RX5 yX5_isOn yX5_isOn ∈ T0 := mT 29 (by decide +kernel) (by decide +kernel)
theorem q30 : Cond.selects RX5 yX5_lowestOf yX5_lowestOf ∈ T0 := mT 30 (by decide +kernel) (by decide +kernel)
theorem q31 : Cond.selects RX5 yX5_withHole yX5_withHole ∈ T0 := mT 31 (by decide +kernel) (by decide +kernel)
theorem q32 : Cond.selects RX5 yX5_rounds yX5_rounds ∈ T0 := mT 32 (by decide +kernel) (by decide +kernel)
theorem q33 : Cond.selects RX5 yX5_stays yX5_stays ∈ T0 := mT 33 (by decide +kernel) (by decide +kernel)
theorem q34 : Cond.selects RX5 yX5_longest yX5_longest ∈ T0 := mT 34 (by decide +kernel) (by decide +kernel)
theorem q35 : Cond.selects RX5 yX5_movesTo yX5_movesTo ∈ T0 := mT 35 (by decide +kernel) (by decide +kernel)
theorem q36 : Cond.selects RX5 yX5_roundOf yX5_roundOf ∈ T0 := mT 36 (by decide +kernel) (by decide +kernel)
theorem q37 : Cond.selects RX5 yX5_lit yX5_lit ∈ T0 := mT 37 (by decide +kernel) (by decide +kernel)
theorem q38 : Cond.selects RX5 yX5_lightBut yX5_lightBut ∈ T0 := mT 38 (by decide +kernel) (by decide +kernel)
theorem q39 : Cond.selects RX5 yX5_falseOnes yX5_falseOnes ∈ T0 := mT 39 (by decide +kernel) (by decide +kernel)
theorem q40 : Cond.selects RX5 yX5_allOf yX5_allOf ∈ T0 := mT 40 (by decide +kernel) (by decide +kernel)
theorem q41 : Cond.initialized RL ∈ T0 := mT 41 (by decide +kernel) (by decide +kernel)
theorem q42 : Cond.initialized RX4 ∈ T0 := mT 42 (by decide +kernel) (by decide +kernel)
theorem q43 : Cond.initialized RX3 ∈ T0 := mT 43 (by decide +kernel) (by decide +kernel)
theorem q44 : Cond.initialized RX1 ∈ T0 := mT 44 (by decide +kernel) (by decide +kernel)
theorem q45 : Cond.initialized RX0 ∈ T0 := mT 45 (by decide +kernel) (by decide +kernel)
theorem q46 : Cond.initialized RX2 ∈ T0 := mT 46 (by decide +kernel) (by decide +kernel)
theorem q47 : Cond.initialized RX5 ∈ T0 := mT 47 (by decide +kernel) (by decide +kernel)
theorem q48 : Cond.initialized RJ10 ∈ T0 := mT 48 (by decide +kernel) (by decide +kernel)
theorem q49 : Cond.initialized RJ9 ∈ T0 := mT 49 (by decide +kernel) (by decide +kernel)
theorem q50 : Cond.initialized RJ6 ∈ T0 := mT 50 (by decide +kernel) (by decide +kernel)
theorem q51 : Cond.classLink RL 7 RX4 ∈ T0 := mT 51 (by decide +kernel) (by decide +kernel)
theorem q52 : Cond.instantiable RX4 5 ∈ T0 := mT 52 (by decide +kernel) (by decide +kernel)
theorem q53 : Cond.methodLink RL 9 yX4_init ∈ T0 := mT 53 (by decide +kernel) (by decide +kernel)
theorem q54 : Cond.instanceMethod yX4_init ∈ T0 := mT 54 (by decide +kernel) (by decide +kernel)
theorem q55 : Cond.code yX4_init cX4_init 1 (none : Option FieldType) ∈ T0 := mT 55 (by decide +kernel) (by decide +kernel)
theorem q56 : Cond.methodLink RX4 1 objectInit ∈ T0 := mT 56 (by decide +kernel) (by decide +kernel)
theorem q57 : Cond.instanceMethod objectInit ∈ T0 := mT 57 (by decide +kernel) (by decide +kernel)
theorem q58 : Cond.code objectInit object_method_1_code 1 (none : Option FieldType) ∈ T0 := mT 58 (by decide +kernel) (by decide +kernel)
theorem q59 : Cond.classLink RX4 7 RX3 ∈ T0 := mT 59 (by decide +kernel) (by decide +kernel)
theorem q60 : Cond.instantiable RX3 9 ∈ T0 := mT 60 (by decide +kernel) (by decide +kernel)
theorem q61 : Cond.methodLink RX4 9 yX3_init ∈ T0 := mT 61 (by decide +kernel) (by decide +kernel)
theorem q62 : Cond.instanceMethod yX3_init ∈ T0 := mT 62 (by decide +kernel) (by decide +kernel)
theorem q63 : Cond.code yX3_init cX3_init 1 (none : Option FieldType) ∈ T0 := mT 63 (by decide +kernel) (by decide +kernel)
theorem q64 : Cond.methodLink RX3 3 objectInit ∈ T0 := mT 64 (by decide +kernel) (by decide +kernel)
theorem q65 : Cond.classLink RX3 9 RX1 ∈ T0 := mT 65 (by decide +kernel) (by decide +kernel)
theorem q66 : Cond.instantiable RX1 2 ∈ T0 := mT 66 (by decide +kernel) (by decide +kernel)
theorem q67 : Cond.methodLink RX3 11 yX1_init ∈ T0 := mT 67 (by decide +kernel) (by decide +kernel)
theorem q68 : Cond.instanceMethod yX1_init ∈ T0 := mT 68 (by decide +kernel) (by decide +kernel)
theorem q69 : Cond.code yX1_init cX1_init 3 (none : Option FieldType) ∈ T0 := mT 69 (by decide +kernel) (by decide +kernel)
theorem q70 : Cond.methodLink RX1 3 objectInit ∈ T0 := mT 70 (by decide +kernel) (by decide +kernel)
theorem q71 : Cond.fieldLink RX1 9 "HoleTickets$Move" "targets" "[I" ∈ T0 := mT 71 (by decide +kernel) (by decide +kernel)
theorem q72 : Cond.fieldLink RX1 15 "HoleTickets$Move" "sources" "[I" ∈ T0 := mT 72 (by decide +kernel) (by decide +kernel)
theorem q78 : Cond.arrayClass FieldType.int ∈ T0 := mT 78 (by decide +kernel) (by decide +kernel)
theorem q79 : Cond.fieldLink RX3 12 "HoleTickets$State" "way" "LHoleTickets$Move;" ∈ T0 := mT 79 (by decide +kernel) (by decide +kernel)
theorem q81 : Cond.fieldLink RX3 18 "HoleTickets$State" "holes" "[I" ∈ T0 := mT 81 (by decide +kernel) (by decide +kernel)
theorem q82 : Cond.fieldLink RX3 22 "HoleTickets$State" "due" "[I" ∈ T0 := mT 82 (by decide +kernel) (by decide +kernel)
theorem q83 : Cond.fieldLink RX3 25 "HoleTickets$State" "turnedBy" "[I" ∈ T0 := mT 83 (by decide +kernel) (by decide +kernel)
theorem q84 : Cond.fieldLink RX3 38 "HoleTickets$State" "sold" "I" ∈ T0 := mT 84 (by decide +kernel) (by decide +kernel)
theorem q85 : Cond.fieldLink RX3 42 "HoleTickets$State" "stacked" "I" ∈ T0 := mT 85 (by decide +kernel) (by decide +kernel)
theorem q86 : Cond.fieldLink RX3 45 "HoleTickets$State" "punched" "I" ∈ T0 := mT 86 (by decide +kernel) (by decide +kernel)
theorem q87 : Cond.fieldLink RX3 48 "HoleTickets$State" "frauds" "I" ∈ T0 := mT 87 (by decide +kernel) (by decide +kernel)
theorem q88 : Cond.fieldLink RX3 51 "HoleTickets$State" "turns" "I" ∈ T0 := mT 88 (by decide +kernel) (by decide +kernel)
theorem q108 : Cond.classLink RX4 23 RX0 ∈ T0 := mT 108 (by decide +kernel) (by decide +kernel)
theorem q109 : Cond.instantiable RX0 3 ∈ T0 := mT 109 (by decide +kernel) (by decide +kernel)
theorem q110 : Cond.methodLink RX4 25 yX0_init ∈ T0 := mT 110 (by decide +kernel) (by decide +kernel)
theorem q111 : Cond.instanceMethod yX0_init ∈ T0 := mT 111 (by decide +kernel) (by decide +kernel)
theorem q112 : Cond.code yX0_init cX0_init 2 (none : Option FieldType) ∈ T0 := mT 112 (by decide +kernel) (by decide +kernel)
theorem q113 : Cond.methodLink RX0 3 objectInit ∈ T0 := mT 113 (by decide +kernel) (by decide +kernel)
theorem q114 : Cond.classLink RX0 9 RX3 ∈ T0 := mT 114 (by decide +kernel) (by decide +kernel)
theorem q116 : Cond.methodLink RX0 17 yX3_init ∈ T0 := mT 116 (by decide +kernel) (by decide +kernel)
theorem q117 : Cond.fieldLink RX0 11 "HoleTickets$History" "rows" "[LHoleTickets$State;" ∈ T0 := mT 117 (by decide +kernel) (by decide +kernel)
theorem q118 : Cond.fieldLink RX0 22 "HoleTickets$History" "next" "I" ∈ T0 := mT 118 (by decide +kernel) (by decide +kernel)
theorem q119 : Cond.fieldLink RX0 18 "HoleTickets$History" "size" "I" ∈ T0 := mT 119 (by decide +kernel) (by decide +kernel)
theorem q127 : Cond.classLink RX4 30 RX2 ∈ T0 := mT 127 (by decide +kernel) (by decide +kernel)
theorem q128 : Cond.instantiable RX2 10 ∈ T0 := mT 128 (by decide +kernel) (by decide +kernel)
theorem q129 : Cond.methodLink RX4 32 yX2_init ∈ T0 := mT 129 (by decide +kernel) (by decide +kernel)
theorem q130 : Cond.instanceMethod yX2_init ∈ T0 := mT 130 (by decide +kernel) (by decide +kernel)
theorem q131 : Cond.code yX2_init cX2_init 1 (none : Option FieldType) ∈ T0 := mT 131 (by decide +kernel) (by decide +kernel)
theorem q132 : Cond.methodLink RX2 3 objectInit ∈ T0 := mT 132 (by decide +kernel) (by decide +kernel)
theorem q133 : Cond.fieldLink RX2 9 "HoleTickets$MoveText" "characters" "[C" ∈ T0 := mT 133 (by decide +kernel) (by decide +kernel)
theorem q134 : Cond.fieldLink RX2 19 "HoleTickets$MoveText" "length" "I" ∈ T0 := mT 134 (by decide +kernel) (by decide +kernel)
theorem q135 : Cond.fieldLink RX2 15 "HoleTickets$MoveText" "targets" "[I" ∈ T0 := mT 135 (by decide +kernel) (by decide +kernel)
theorem q136 : Cond.fieldLink RX2 23 "HoleTickets$MoveText" "faultIndex" "I" ∈ T0 := mT 136 (by decide +kernel) (by decide +kernel)
theorem q137 : Cond.fieldLink RX2 26 "HoleTickets$MoveText" "faultKind" "I" ∈ T0 := mT 137 (by decide +kernel) (by decide +kernel)
theorem q138 : Cond.fieldLink RX2 44 "HoleTickets$MoveText" "awaited" "I" ∈ T0 := mT 138 (by decide +kernel) (by decide +kernel)
theorem q139 : Cond.fieldLink RX2 66 "HoleTickets$MoveText" "number" "I" ∈ T0 := mT 139 (by decide +kernel) (by decide +kernel)
theorem q140 : Cond.fieldLink RX2 47 "HoleTickets$MoveText" "came" "I" ∈ T0 := mT 140 (by decide +kernel) (by decide +kernel)
theorem q141 : Cond.fieldLink RX2 73 "HoleTickets$MoveText" "firstOfRound" "I" ∈ T0 := mT 141 (by decide +kernel) (by decide +kernel)
theorem q142 : Cond.fieldLink RX2 76 "HoleTickets$MoveText" "lastOfRound" "I" ∈ T0 := mT 142 (by decide +kernel) (by decide +kernel)
theorem q164 : Cond.arrayClass FieldType.char ∈ T0 := mT 164 (by decide +kernel) (by decide +kernel)
theorem q165 : Cond.fieldLink RX4 10 "HoleTickets" "now" "LHoleTickets$State;" ∈ T0 := mT 165 (by decide +kernel) (by decide +kernel)
theorem q166 : Cond.fieldLink RX4 16 "HoleTickets" "kept" "LHoleTickets$State;" ∈ T0 := mT 166 (by decide +kernel) (by decide +kernel)
theorem q167 : Cond.fieldLink RX4 19 "HoleTickets" "isKept" "Z" ∈ T0 := mT 167 (by decide +kernel) (by decide +kernel)
theorem q168 : Cond.fieldLink RX4 26 "HoleTickets" "history" "LHoleTickets$History;" ∈ T0 := mT 168 (by decide +kernel) (by decide +kernel)
theorem q169 : Cond.fieldLink RX4 33 "HoleTickets" "text" "LHoleTickets$MoveText;" ∈ T0 := mT 169 (by decide +kernel) (by decide +kernel)
theorem q181 : Cond.methodLink RL 13 yX4_exchange ∈ T0 := mT 181 (by decide +kernel) (by decide +kernel)
theorem q182 : Cond.instanceMethod yX4_exchange ∈ T0 := mT 182 (by decide +kernel) (by decide +kernel)
theorem q183 : Cond.selects RX4 yX4_exchange yX4_exchange ∈ T0 := mT 183 (by decide +kernel) (by decide +kernel)
theorem q184 : Cond.code yX4_exchange cX4_exchange 3 (some FieldType.int) ∈ T0 := mT 184 (by decide +kernel) (by decide +kernel)
theorem q185 : Cond.methodLink RX4 37 yX4_isPlace ∈ T0 := mT 185 (by decide +kernel) (by decide +kernel)
theorem q186 : Cond.static yX4_isPlace ∈ T0 := mT 186 (by decide +kernel) (by decide +kernel)
theorem q187 : Cond.code yX4_isPlace cX4_isPlace 1 (some FieldType.boolean) ∈ T0 := mT 187 (by decide +kernel) (by decide +kernel)
theorem q188 : Cond.methodLink RX4 41 yX0_record ∈ T0 := mT 188 (by decide +kernel) (by decide +kernel)
theorem q189 : Cond.instanceMethod yX0_record ∈ T0 := mT 189 (by decide +kernel) (by decide +kernel)
theorem q190 : Cond.selects RX0 yX0_record yX0_record ∈ T0 := mT 190 (by decide +kernel) (by decide +kernel)
theorem q191 : Cond.code yX0_record cX0_record 3 (none : Option FieldType) ∈ T0 := mT 191 (by decide +kernel) (by decide +kernel)
theorem q192 : Cond.methodLink RX0 25 yX0_row ∈ T0 := mT 192 (by decide +kernel) (by decide +kernel)
theorem q194 : Cond.instanceMethod yX0_row ∈ T0 := mT 194 (by decide +kernel) (by decide +kernel)
theorem q195 : Cond.code yX0_row cX0_row 2 (some (FieldType.object "HoleTickets$State")) ∈ T0 := mT 195 (by decide +kernel) (by decide +kernel)
theorem q196 : Cond.methodLink RX0 29 yX3_copy ∈ T0 := mT 196 (by decide +kernel) (by decide +kernel)
theorem q197 : Cond.instanceMethod yX3_copy ∈ T0 := mT 197 (by decide +kernel) (by decide +kernel)
theorem q198 : Cond.selects RX3 yX3_copy yX3_copy ∈ T0 := mT 198 (by decide +kernel) (by decide +kernel)
theorem q199 : Cond.code yX3_copy cX3_copy 2 (none : Option FieldType) ∈ T0 := mT 199 (by decide +kernel) (by decide +kernel)
theorem q200 : Cond.methodLink RX3 28 yX1_copy ∈ T0 := mT 200 (by decide +kernel) (by decide +kernel)
theorem q201 : Cond.instanceMethod yX1_copy ∈ T0 := mT 201 (by decide +kernel) (by decide +kernel)
theorem q202 : Cond.selects RX1 yX1_copy yX1_copy ∈ T0 := mT 202 (by decide +kernel) (by decide +kernel)
theorem q203 : Cond.code yX1_copy cX1_copy 2 (none : Option FieldType) ∈ T0 := mT 203 (by decide +kernel) (by decide +kernel)
theorem q204 : Cond.methodLink RX1 18 arraycopyName ∈ T0 := mT 204 (by decide +kernel) (by decide +kernel)
theorem q205 : Cond.static arraycopyName ∈ T0 := mT 205 (by decide +kernel) (by decide +kernel)
theorem q206 : Cond.native arraycopyName ∈ T0 := mT 206 (by decide +kernel) (by decide +kernel)
theorem q207 : Cond.methodLink RX3 32 arraycopyName ∈ T0 := mT 207 (by decide +kernel) (by decide +kernel)
theorem q208 : Cond.methodLink RX0 33 yJ9_min_7cf53 ∈ T0 := mT 208 (by decide +kernel) (by decide +kernel)
theorem q209 : Cond.static yJ9_min_7cf53 ∈ T0 := mT 209 (by decide +kernel) (by decide +kernel)
theorem q210 : Cond.code yJ9_min_7cf53 cJ9_min_7cf53 2 (some FieldType.int) ∈ T0 := mT 210 (by decide +kernel) (by decide +kernel)
theorem q211 : Cond.methodLink RX4 49 yX1_swapTargets ∈ T0 := mT 211 (by decide +kernel) (by decide +kernel)
theorem q212 : Cond.instanceMethod yX1_swapTargets ∈ T0 := mT 212 (by decide +kernel) (by decide +kernel)
theorem q213 : Cond.selects RX1 yX1_swapTargets yX1_swapTargets ∈ T0 := mT 213 (by decide +kernel) (by decide +kernel)
theorem q214 : Cond.code yX1_swapTargets cX1_swapTargets 4 (none : Option FieldType) ∈ T0 := mT 214 (by decide +kernel) (by decide +kernel)
theorem q215 : Cond.methodLink RX1 34 yX1_target ∈ T0 := mT 215 (by decide +kernel) (by decide +kernel)
theorem q216 : Cond.instanceMethod yX1_target ∈ T0 := mT 216 (by decide +kernel) (by decide +kernel)
theorem q217 : Cond.selects RX1 yX1_target yX1_target ∈ T0 := mT 217 (by decide +kernel) (by decide +kernel)
theorem q218 : Cond.code yX1_target cX1_target 2 (some FieldType.int) ∈ T0 := mT 218 (by decide +kernel) (by decide +kernel)
theorem q220 : Cond.methodLink RX1 30 yX1_send ∈ T0 := mT 220 (by decide +kernel) (by decide +kernel)
theorem q222 : Cond.instanceMethod yX1_send ∈ T0 := mT 222 (by decide +kernel) (by decide +kernel)
theorem q223 : Cond.code yX1_send cX1_send 3 (none : Option FieldType) ∈ T0 := mT 223 (by decide +kernel) (by decide +kernel)
theorem q224 : Cond.methodLink RX4 55 yX1_order ∈ T0 := mT 224 (by decide +kernel) (by decide +kernel)
theorem q225 : Cond.instanceMethod yX1_order ∈ T0 := mT 225 (by decide +kernel) (by decide +kernel)
theorem q226 : Cond.selects RX1 yX1_order yX1_order ∈ T0 := mT 226 (by decide +kernel) (by decide +kernel)
theorem q227 : Cond.code yX1_order cX1_order 5 (some FieldType.int) ∈ T0 := mT 227 (by decide +kernel) (by decide +kernel)
theorem q229 : Cond.static yX4_has ∈ T0 := mT 229 (by decide +kernel) (by decide +kernel)
theorem q230 : Cond.code yX4_has cX4_has 2 (some FieldType.boolean) ∈ T0 := mT 230 (by decide +kernel) (by decide +kernel)
theorem q231 : Cond.methodLink RX1 46 yX1_round ∈ T0 := mT 231 (by decide +kernel) (by decide +kernel)
theorem q232 : Cond.instanceMethod yX1_round ∈ T0 := mT 232 (by decide +kernel) (by decide +kernel)
theorem q233 : Cond.selects RX1 yX1_round yX1_round ∈ T0 := mT 233 (by decide +kernel) (by decide +kernel)
theorem q234 : Cond.code yX1_round cX1_round 5 (some FieldType.int) ∈ T0 := mT 234 (by decide +kernel) (by decide +kernel)
theorem q236 : Cond.static yX4_only ∈ T0 := mT 236 (by decide +kernel) (by decide +kernel)
theorem q237 : Cond.code yX4_only cX4_only 1 (some FieldType.int) ∈ T0 := mT 237 (by decide +kernel) (by decide +kernel)
theorem q238 : Cond.methodLink RX1 49 yJ6_bitCount_0f7a4 ∈ T0 := mT 238 (by decide +kernel) (by decide +kernel)
theorem q239 : Cond.static yJ6_bitCount_0f7a4 ∈ T0 := mT 239 (by decide +kernel) (by decide +kernel)
theorem q240 : Cond.code yJ6_bitCount_0f7a4 cJ6_bitCount_0f7a4 1 (some FieldType.int) ∈ T0 := mT 240 (by decide +kernel) (by decide +kernel)
theorem q241 : Cond.constant RJ6 265 (1431655765 : Int32) ∈ T0 := mT 241 (by decide +kernel) (by decide +kernel)
theorem q242 : Cond.constant RJ6 266 (858993459 : Int32) ∈ T0 := mT 242 (by decide +kernel) (by decide +kernel)
theorem q243 : Cond.constant RJ6 267 (252645135 : Int32) ∈ T0 := mT 243 (by decide +kernel) (by decide +kernel)
theorem q245 : Cond.static yX4_leastCommonMultiple ∈ T0 := mT 245 (by decide +kernel) (by decide +kernel)
theorem q246 : Cond.code yX4_leastCommonMultiple cX4_leastCommonMultiple 3 (some FieldType.int) ∈ T0 := mT 246 (by decide +kernel) (by decide +kernel)
theorem q247 : Cond.methodLink RL 18 yX4_reverse ∈ T0 := mT 247 (by decide +kernel) (by decide +kernel)
theorem q248 : Cond.instanceMethod yX4_reverse ∈ T0 := mT 248 (by decide +kernel) (by decide +kernel)
theorem q249 : Cond.selects RX4 yX4_reverse yX4_reverse ∈ T0 := mT 249 (by decide +kernel) (by decide +kernel)
theorem q250 : Cond.code yX4_reverse cX4_reverse 2 (some FieldType.int) ∈ T0 := mT 250 (by decide +kernel) (by decide +kernel)
theorem q251 : Cond.methodLink RX4 59 yX1_turnBack ∈ T0 := mT 251 (by decide +kernel) (by decide +kernel)
theorem q252 : Cond.instanceMethod yX1_turnBack ∈ T0 := mT 252 (by decide +kernel) (by decide +kernel)
theorem q253 : Cond.selects RX1 yX1_turnBack yX1_turnBack ∈ T0 := mT 253 (by decide +kernel) (by decide +kernel)
theorem q254 : Cond.code yX1_turnBack cX1_turnBack 2 (none : Option FieldType) ∈ T0 := mT 254 (by decide +kernel) (by decide +kernel)
theorem q255 : Cond.methodLink RL 23 yX4_readMove ∈ T0 := mT 255 (by decide +kernel) (by decide +kernel)
theorem q256 : Cond.instanceMethod yX4_readMove ∈ T0 := mT 256 (by decide +kernel) (by decide +kernel)
theorem q257 : Cond.selects RX4 yX4_readMove yX4_readMove ∈ T0 := mT 257 (by decide +kernel) (by decide +kernel)
theorem q258 : Cond.code yX4_readMove cX4_readMove 1 (some FieldType.int) ∈ T0 := mT 258 (by decide +kernel) (by decide +kernel)
theorem q259 : Cond.methodLink RX4 62 yX2_read ∈ T0 := mT 259 (by decide +kernel) (by decide +kernel)
theorem q260 : Cond.instanceMethod yX2_read ∈ T0 := mT 260 (by decide +kernel) (by decide +kernel)
theorem q261 : Cond.selects RX2 yX2_read yX2_read ∈ T0 := mT 261 (by decide +kernel) (by decide +kernel)
theorem q262 : Cond.code yX2_read cX2_read 2 (none : Option FieldType) ∈ T0 := mT 262 (by decide +kernel) (by decide +kernel)
theorem q263 : Cond.methodLink RX2 33 yX2_startReading ∈ T0 := mT 263 (by decide +kernel) (by decide +kernel)
theorem q265 : Cond.instanceMethod yX2_startReading ∈ T0 := mT 265 (by decide +kernel) (by decide +kernel)
theorem q266 : Cond.code yX2_startReading cX2_startReading 2 (none : Option FieldType) ∈ T0 := mT 266 (by decide +kernel) (by decide +kernel)
theorem q267 : Cond.methodLink RX2 36 yX2_faultOf ∈ T0 := mT 267 (by decide +kernel) (by decide +kernel)
theorem q269 : Cond.instanceMethod yX2_faultOf ∈ T0 := mT 269 (by decide +kernel) (by decide +kernel)
theorem q270 : Cond.code yX2_faultOf cX2_faultOf 2 (some FieldType.int) ∈ T0 := mT 270 (by decide +kernel) (by decide +kernel)
theorem q271 : Cond.methodLink RX2 50 yX2_startRound ∈ T0 := mT 271 (by decide +kernel) (by decide +kernel)
theorem q273 : Cond.instanceMethod yX2_startRound ∈ T0 := mT 273 (by decide +kernel) (by decide +kernel)
theorem q274 : Cond.code yX2_startRound cX2_startRound 2 (some FieldType.int) ∈ T0 := mT 274 (by decide +kernel) (by decide +kernel)
theorem q275 : Cond.methodLink RX2 53 yX2_startPlace ∈ T0 := mT 275 (by decide +kernel) (by decide +kernel)
theorem q277 : Cond.instanceMethod yX2_startPlace ∈ T0 := mT 277 (by decide +kernel) (by decide +kernel)
theorem q278 : Cond.code yX2_startPlace cX2_startPlace 2 (some FieldType.int) ∈ T0 := mT 278 (by decide +kernel) (by decide +kernel)
theorem q279 : Cond.methodLink RX2 56 yX2_isDigit ∈ T0 := mT 279 (by decide +kernel) (by decide +kernel)
theorem q280 : Cond.static yX2_isDigit ∈ T0 := mT 280 (by decide +kernel) (by decide +kernel)
theorem q281 : Cond.code yX2_isDigit cX2_isDigit 1 (some FieldType.boolean) ∈ T0 := mT 281 (by decide +kernel) (by decide +kernel)
theorem q282 : Cond.methodLink RX2 60 yX2_lengthenPlace ∈ T0 := mT 282 (by decide +kernel) (by decide +kernel)
theorem q284 : Cond.instanceMethod yX2_lengthenPlace ∈ T0 := mT 284 (by decide +kernel) (by decide +kernel)
theorem q285 : Cond.code yX2_lengthenPlace cX2_lengthenPlace 3 (some FieldType.int) ∈ T0 := mT 285 (by decide +kernel) (by decide +kernel)
theorem q286 : Cond.methodLink RX2 63 yX2_endPlace ∈ T0 := mT 286 (by decide +kernel) (by decide +kernel)
theorem q288 : Cond.instanceMethod yX2_endPlace ∈ T0 := mT 288 (by decide +kernel) (by decide +kernel)
theorem q289 : Cond.code yX2_endPlace cX2_endPlace 3 (some FieldType.int) ∈ T0 := mT 289 (by decide +kernel) (by decide +kernel)
theorem q291 : Cond.methodLink RX2 79 yX2_send ∈ T0 := mT 291 (by decide +kernel) (by decide +kernel)
theorem q293 : Cond.instanceMethod yX2_send ∈ T0 := mT 293 (by decide +kernel) (by decide +kernel)
theorem q294 : Cond.code yX2_send cX2_send 3 (none : Option FieldType) ∈ T0 := mT 294 (by decide +kernel) (by decide +kernel)
theorem q297 : Cond.methodLink RX2 40 yX2_faultOfEnd ∈ T0 := mT 297 (by decide +kernel) (by decide +kernel)
theorem q299 : Cond.instanceMethod yX2_faultOfEnd ∈ T0 := mT 299 (by decide +kernel) (by decide +kernel)
theorem q300 : Cond.code yX2_faultOfEnd cX2_faultOfEnd 1 (some FieldType.int) ∈ T0 := mT 300 (by decide +kernel) (by decide +kernel)
theorem q301 : Cond.methodLink RX4 65 yX2_faultKind ∈ T0 := mT 301 (by decide +kernel) (by decide +kernel)
theorem q302 : Cond.instanceMethod yX2_faultKind ∈ T0 := mT 302 (by decide +kernel) (by decide +kernel)
theorem q303 : Cond.selects RX2 yX2_faultKind yX2_faultKind ∈ T0 := mT 303 (by decide +kernel) (by decide +kernel)
theorem q304 : Cond.code yX2_faultKind cX2_faultKind 1 (some FieldType.int) ∈ T0 := mT 304 (by decide +kernel) (by decide +kernel)
theorem q305 : Cond.methodLink RX4 68 yX2_faultIndex ∈ T0 := mT 305 (by decide +kernel) (by decide +kernel)
theorem q306 : Cond.instanceMethod yX2_faultIndex ∈ T0 := mT 306 (by decide +kernel) (by decide +kernel)
theorem q307 : Cond.selects RX2 yX2_faultIndex yX2_faultIndex ∈ T0 := mT 307 (by decide +kernel) (by decide +kernel)
theorem q308 : Cond.code yX2_faultIndex cX2_faultIndex 1 (some FieldType.int) ∈ T0 := mT 308 (by decide +kernel) (by decide +kernel)
theorem q309 : Cond.methodLink RX4 71 yX1_take ∈ T0 := mT 309 (by decide +kernel) (by decide +kernel)
theorem q310 : Cond.instanceMethod yX1_take ∈ T0 := mT 310 (by decide +kernel) (by decide +kernel)
theorem q311 : Cond.selects RX1 yX1_take yX1_take ∈ T0 := mT 311 (by decide +kernel) (by decide +kernel)
theorem q312 : Cond.code yX1_take cX1_take 3 (none : Option FieldType) ∈ T0 := mT 312 (by decide +kernel) (by decide +kernel)
theorem q313 : Cond.methodLink RX1 24 yX2_target ∈ T0 := mT 313 (by decide +kernel) (by decide +kernel)
theorem q314 : Cond.instanceMethod yX2_target ∈ T0 := mT 314 (by decide +kernel) (by decide +kernel)
theorem q315 : Cond.selects RX2 yX2_target yX2_target ∈ T0 := mT 315 (by decide +kernel) (by decide +kernel)
theorem q316 : Cond.code yX2_target cX2_target 2 (some FieldType.int) ∈ T0 := mT 316 (by decide +kernel) (by decide +kernel)
theorem q317 : Cond.methodLink RL 27 yX4_sell ∈ T0 := mT 317 (by decide +kernel) (by decide +kernel)
theorem q318 : Cond.instanceMethod yX4_sell ∈ T0 := mT 318 (by decide +kernel) (by decide +kernel)
theorem q319 : Cond.selects RX4 yX4_sell yX4_sell ∈ T0 := mT 319 (by decide +kernel) (by decide +kernel)
theorem q320 : Cond.code yX4_sell cX4_sell 2 (some FieldType.int) ∈ T0 := mT 320 (by decide +kernel) (by decide +kernel)
theorem q321 : Cond.constant RX4 75 (16777215 : Int32) ∈ T0 := mT 321 (by decide +kernel) (by decide +kernel)
theorem q322 : Cond.methodLink RX4 76 yX3_sold ∈ T0 := mT 322 (by decide +kernel) (by decide +kernel)
theorem q323 : Cond.instanceMethod yX3_sold ∈ T0 := mT 323 (by decide +kernel) (by decide +kernel)
theorem q324 : Cond.selects RX3 yX3_sold yX3_sold ∈ T0 := mT 324 (by decide +kernel) (by decide +kernel)
theorem q325 : Cond.code yX3_sold cX3_sold 1 (some FieldType.int) ∈ T0 := mT 325 (by decide +kernel) (by decide +kernel)
theorem q326 : Cond.methodLink RX4 79 yX3_add ∈ T0 := mT 326 (by decide +kernel) (by decide +kernel)
theorem q327 : Cond.instanceMethod yX3_add ∈ T0 := mT 327 (by decide +kernel) (by decide +kernel)
theorem q328 : Cond.selects RX3 yX3_add yX3_add ∈ T0 := mT 328 (by decide +kernel) (by decide +kernel)
theorem q329 : Cond.code yX3_add cX3_add 3 (some FieldType.int) ∈ T0 := mT 329 (by decide +kernel) (by decide +kernel)
theorem q330 : Cond.methodLink RX3 63 yJ6_bitCount_0f7a4 ∈ T0 := mT 330 (by decide +kernel) (by decide +kernel)
theorem q331 : Cond.methodLink RL 32 yX4_punch ∈ T0 := mT 331 (by decide +kernel) (by decide +kernel)
theorem q332 : Cond.instanceMethod yX4_punch ∈ T0 := mT 332 (by decide +kernel) (by decide +kernel)
theorem q333 : Cond.selects RX4 yX4_punch yX4_punch ∈ T0 := mT 333 (by decide +kernel) (by decide +kernel)
theorem q334 : Cond.code yX4_punch cX4_punch 3 (some FieldType.int) ∈ T0 := mT 334 (by decide +kernel) (by decide +kernel)
theorem q335 : Cond.methodLink RX4 83 yX3_isTicket ∈ T0 := mT 335 (by decide +kernel) (by decide +kernel)
theorem q336 : Cond.instanceMethod yX3_isTicket ∈ T0 := mT 336 (by decide +kernel) (by decide +kernel)
theorem q337 : Cond.selects RX3 yX3_isTicket yX3_isTicket ∈ T0 := mT 337 (by decide +kernel) (by decide +kernel)
theorem q338 : Cond.code yX3_isTicket cX3_isTicket 2 (some FieldType.boolean) ∈ T0 := mT 338 (by decide +kernel) (by decide +kernel)
theorem q339 : Cond.methodLink RX4 86 yX3_holes ∈ T0 := mT 339 (by decide +kernel) (by decide +kernel)
theorem q340 : Cond.instanceMethod yX3_holes ∈ T0 := mT 340 (by decide +kernel) (by decide +kernel)
theorem q341 : Cond.selects RX3 yX3_holes yX3_holes ∈ T0 := mT 341 (by decide +kernel) (by decide +kernel)
theorem q342 : Cond.code yX3_holes cX3_holes 2 (some FieldType.int) ∈ T0 := mT 342 (by decide +kernel) (by decide +kernel)
theorem q343 : Cond.methodLink RX3 54 yX3_isTicket ∈ T0 := mT 343 (by decide +kernel) (by decide +kernel)
theorem q344 : Cond.methodLink RX4 89 yX3_due ∈ T0 := mT 344 (by decide +kernel) (by decide +kernel)
theorem q345 : Cond.instanceMethod yX3_due ∈ T0 := mT 345 (by decide +kernel) (by decide +kernel)
theorem q346 : Cond.selects RX3 yX3_due yX3_due ∈ T0 := mT 346 (by decide +kernel) (by decide +kernel)
theorem q347 : Cond.code yX3_due cX3_due 2 (some FieldType.int) ∈ T0 := mT 347 (by decide +kernel) (by decide +kernel)
theorem q348 : Cond.methodLink RX4 92 yX4_has ∈ T0 := mT 348 (by decide +kernel) (by decide +kernel)
theorem q349 : Cond.methodLink RX4 96 yX3_punchByRight ∈ T0 := mT 349 (by decide +kernel) (by decide +kernel)
theorem q350 : Cond.instanceMethod yX3_punchByRight ∈ T0 := mT 350 (by decide +kernel) (by decide +kernel)
theorem q351 : Cond.selects RX3 yX3_punchByRight yX3_punchByRight ∈ T0 := mT 351 (by decide +kernel) (by decide +kernel)
theorem q352 : Cond.code yX3_punchByRight cX3_punchByRight 3 (none : Option FieldType) ∈ T0 := mT 352 (by decide +kernel) (by decide +kernel)
theorem q354 : Cond.methodLink RX4 99 yJ6_bitCount_0f7a4 ∈ T0 := mT 354 (by decide +kernel) (by decide +kernel)
theorem q355 : Cond.methodLink RL 36 yX4_forge ∈ T0 := mT 355 (by decide +kernel) (by decide +kernel)
theorem q356 : Cond.instanceMethod yX4_forge ∈ T0 := mT 356 (by decide +kernel) (by decide +kernel)
theorem q357 : Cond.selects RX4 yX4_forge yX4_forge ∈ T0 := mT 357 (by decide +kernel) (by decide +kernel)
theorem q358 : Cond.code yX4_forge cX4_forge 4 (some FieldType.int) ∈ T0 := mT 358 (by decide +kernel) (by decide +kernel)
theorem q359 : Cond.methodLink RX4 104 yX3_changeByFraud ∈ T0 := mT 359 (by decide +kernel) (by decide +kernel)
theorem q360 : Cond.instanceMethod yX3_changeByFraud ∈ T0 := mT 360 (by decide +kernel) (by decide +kernel)
theorem q361 : Cond.selects RX3 yX3_changeByFraud yX3_changeByFraud ∈ T0 := mT 361 (by decide +kernel) (by decide +kernel)
theorem q362 : Cond.code yX3_changeByFraud cX3_changeByFraud 3 (none : Option FieldType) ∈ T0 := mT 362 (by decide +kernel) (by decide +kernel)
theorem q363 : Cond.methodLink RX4 107 yX3_isFalse ∈ T0 := mT 363 (by decide +kernel) (by decide +kernel)
theorem q364 : Cond.instanceMethod yX3_isFalse ∈ T0 := mT 364 (by decide +kernel) (by decide +kernel)
theorem q365 : Cond.selects RX3 yX3_isFalse yX3_isFalse ∈ T0 := mT 365 (by decide +kernel) (by decide +kernel)
theorem q366 : Cond.code yX3_isFalse cX3_isFalse 2 (some FieldType.boolean) ∈ T0 := mT 366 (by decide +kernel) (by decide +kernel)
theorem q367 : Cond.methodLink RX3 58 yX3_holes ∈ T0 := mT 367 (by decide +kernel) (by decide +kernel)
theorem q368 : Cond.methodLink RX3 61 yX3_due ∈ T0 := mT 368 (by decide +kernel) (by decide +kernel)
theorem q369 : Cond.methodLink RX4 110 yX4_asNumber ∈ T0 := mT 369 (by decide +kernel) (by decide +kernel)
theorem q370 : Cond.static yX4_asNumber ∈ T0 := mT 370 (by decide +kernel) (by decide +kernel)
theorem q371 : Cond.code yX4_asNumber cX4_asNumber 1 (some FieldType.int) ∈ T0 := mT 371 (by decide +kernel) (by decide +kernel)
theorem q372 : Cond.methodLink RL 41 yX4_mend ∈ T0 := mT 372 (by decide +kernel) (by decide +kernel)
theorem q373 : Cond.instanceMethod yX4_mend ∈ T0 := mT 373 (by decide +kernel) (by decide +kernel)
theorem q374 : Cond.selects RX4 yX4_mend yX4_mend ∈ T0 := mT 374 (by decide +kernel) (by decide +kernel)
theorem q375 : Cond.code yX4_mend cX4_mend 3 (some FieldType.int) ∈ T0 := mT 375 (by decide +kernel) (by decide +kernel)
theorem q376 : Cond.methodLink RX4 114 yX3_makeRight ∈ T0 := mT 376 (by decide +kernel) (by decide +kernel)
theorem q377 : Cond.instanceMethod yX3_makeRight ∈ T0 := mT 377 (by decide +kernel) (by decide +kernel)
theorem q378 : Cond.selects RX3 yX3_makeRight yX3_makeRight ∈ T0 := mT 378 (by decide +kernel) (by decide +kernel)
theorem q379 : Cond.code yX3_makeRight cX3_makeRight 2 (none : Option FieldType) ∈ T0 := mT 379 (by decide +kernel) (by decide +kernel)
theorem q380 : Cond.methodLink RL 45 yX4_turn ∈ T0 := mT 380 (by decide +kernel) (by decide +kernel)
theorem q381 : Cond.instanceMethod yX4_turn ∈ T0 := mT 381 (by decide +kernel) (by decide +kernel)
theorem q382 : Cond.selects RX4 yX4_turn yX4_turn ∈ T0 := mT 382 (by decide +kernel) (by decide +kernel)
theorem q383 : Cond.code yX4_turn cX4_turn 3 (some FieldType.int) ∈ T0 := mT 383 (by decide +kernel) (by decide +kernel)
theorem q384 : Cond.methodLink RX4 118 yX4_isPower ∈ T0 := mT 384 (by decide +kernel) (by decide +kernel)
theorem q385 : Cond.static yX4_isPower ∈ T0 := mT 385 (by decide +kernel) (by decide +kernel)
theorem q386 : Cond.code yX4_isPower cX4_isPower 1 (some FieldType.boolean) ∈ T0 := mT 386 (by decide +kernel) (by decide +kernel)
theorem q387 : Cond.methodLink RX4 121 yX1_leavesAll ∈ T0 := mT 387 (by decide +kernel) (by decide +kernel)
theorem q388 : Cond.instanceMethod yX1_leavesAll ∈ T0 := mT 388 (by decide +kernel) (by decide +kernel)
theorem q389 : Cond.selects RX1 yX1_leavesAll yX1_leavesAll ∈ T0 := mT 389 (by decide +kernel) (by decide +kernel)
theorem q390 : Cond.code yX1_leavesAll cX1_leavesAll 3 (some FieldType.boolean) ∈ T0 := mT 390 (by decide +kernel) (by decide +kernel)
theorem q391 : Cond.methodLink RX1 67 yX1_order ∈ T0 := mT 391 (by decide +kernel) (by decide +kernel)
theorem q392 : Cond.methodLink RX4 124 yX3_turnTicket ∈ T0 := mT 392 (by decide +kernel) (by decide +kernel)
theorem q393 : Cond.instanceMethod yX3_turnTicket ∈ T0 := mT 393 (by decide +kernel) (by decide +kernel)
theorem q394 : Cond.selects RX3 yX3_turnTicket yX3_turnTicket ∈ T0 := mT 394 (by decide +kernel) (by decide +kernel)
theorem q395 : Cond.code yX3_turnTicket cX3_turnTicket 3 (none : Option FieldType) ∈ T0 := mT 395 (by decide +kernel) (by decide +kernel)
theorem q396 : Cond.methodLink RX3 71 yX1_movedBy ∈ T0 := mT 396 (by decide +kernel) (by decide +kernel)
theorem q397 : Cond.instanceMethod yX1_movedBy ∈ T0 := mT 397 (by decide +kernel) (by decide +kernel)
theorem q398 : Cond.selects RX1 yX1_movedBy yX1_movedBy ∈ T0 := mT 398 (by decide +kernel) (by decide +kernel)
theorem q399 : Cond.code yX1_movedBy cX1_movedBy 5 (some FieldType.int) ∈ T0 := mT 399 (by decide +kernel) (by decide +kernel)
theorem q400 : Cond.methodLink RX1 73 yX1_targetBehind ∈ T0 := mT 400 (by decide +kernel) (by decide +kernel)
theorem q401 : Cond.instanceMethod yX1_targetBehind ∈ T0 := mT 401 (by decide +kernel) (by decide +kernel)
theorem q402 : Cond.selects RX1 yX1_targetBehind yX1_targetBehind ∈ T0 := mT 402 (by decide +kernel) (by decide +kernel)
theorem q403 : Cond.code yX1_targetBehind cX1_targetBehind 7 (some FieldType.int) ∈ T0 := mT 403 (by decide +kernel) (by decide +kernel)
theorem q404 : Cond.methodLink RX1 70 yJ9_floorMod_7cf53 ∈ T0 := mT 404 (by decide +kernel) (by decide +kernel)
theorem q405 : Cond.static yJ9_floorMod_7cf53 ∈ T0 := mT 405 (by decide +kernel) (by decide +kernel)
theorem q406 : Cond.code yJ9_floorMod_7cf53 cJ9_floorMod_7cf53 3 (some FieldType.int) ∈ T0 := mT 406 (by decide +kernel) (by decide +kernel)
theorem q407 : Cond.methodLink RL 49 yX4_stack ∈ T0 := mT 407 (by decide +kernel) (by decide +kernel)
theorem q408 : Cond.instanceMethod yX4_stack ∈ T0 := mT 408 (by decide +kernel) (by decide +kernel)
theorem q409 : Cond.selects RX4 yX4_stack yX4_stack ∈ T0 := mT 409 (by decide +kernel) (by decide +kernel)
theorem q410 : Cond.code yX4_stack cX4_stack 3 (some FieldType.int) ∈ T0 := mT 410 (by decide +kernel) (by decide +kernel)
theorem q411 : Cond.methodLink RX4 127 yX3_stacked ∈ T0 := mT 411 (by decide +kernel) (by decide +kernel)
theorem q412 : Cond.instanceMethod yX3_stacked ∈ T0 := mT 412 (by decide +kernel) (by decide +kernel)
theorem q413 : Cond.selects RX3 yX3_stacked yX3_stacked ∈ T0 := mT 413 (by decide +kernel) (by decide +kernel)
theorem q414 : Cond.code yX3_stacked cX3_stacked 1 (some FieldType.int) ∈ T0 := mT 414 (by decide +kernel) (by decide +kernel)
theorem q415 : Cond.methodLink RX4 130 yX3_changeStack ∈ T0 := mT 415 (by decide +kernel) (by decide +kernel)
theorem q416 : Cond.instanceMethod yX3_changeStack ∈ T0 := mT 416 (by decide +kernel) (by decide +kernel)
theorem q417 : Cond.selects RX3 yX3_changeStack yX3_changeStack ∈ T0 := mT 417 (by decide +kernel) (by decide +kernel)
theorem q418 : Cond.code yX3_changeStack cX3_changeStack 2 (none : Option FieldType) ∈ T0 := mT 418 (by decide +kernel) (by decide +kernel)
theorem q419 : Cond.methodLink RL 54 yX4_turnStack ∈ T0 := mT 419 (by decide +kernel) (by decide +kernel)
theorem q420 : Cond.instanceMethod yX4_turnStack ∈ T0 := mT 420 (by decide +kernel) (by decide +kernel)
theorem q421 : Cond.selects RX4 yX4_turnStack yX4_turnStack ∈ T0 := mT 421 (by decide +kernel) (by decide +kernel)
theorem q422 : Cond.code yX4_turnStack cX4_turnStack 2 (some FieldType.int) ∈ T0 := mT 422 (by decide +kernel) (by decide +kernel)
theorem q423 : Cond.methodLink RX4 133 yX3_turnStacked ∈ T0 := mT 423 (by decide +kernel) (by decide +kernel)
theorem q424 : Cond.instanceMethod yX3_turnStacked ∈ T0 := mT 424 (by decide +kernel) (by decide +kernel)
theorem q425 : Cond.selects RX3 yX3_turnStacked yX3_turnStacked ∈ T0 := mT 425 (by decide +kernel) (by decide +kernel)
theorem q426 : Cond.code yX3_turnStacked cX3_turnStacked 3 (none : Option FieldType) ∈ T0 := mT 426 (by decide +kernel) (by decide +kernel)
theorem q428 : Cond.methodLink RX3 79 yX3_turnTicket ∈ T0 := mT 428 (by decide +kernel) (by decide +kernel)
theorem q429 : Cond.methodLink RL 58 yX4_type ∈ T0 := mT 429 (by decide +kernel) (by decide +kernel)
theorem q430 : Cond.instanceMethod yX4_type ∈ T0 := mT 430 (by decide +kernel) (by decide +kernel)
theorem q431 : Cond.selects RX4 yX4_type yX4_type ∈ T0 := mT 431 (by decide +kernel) (by decide +kernel)
theorem q432 : Cond.code yX4_type cX4_type 2 (some FieldType.int) ∈ T0 := mT 432 (by decide +kernel) (by decide +kernel)
theorem q433 : Cond.methodLink RX4 136 yX2_length ∈ T0 := mT 433 (by decide +kernel) (by decide +kernel)
theorem q434 : Cond.instanceMethod yX2_length ∈ T0 := mT 434 (by decide +kernel) (by decide +kernel)
theorem q435 : Cond.selects RX2 yX2_length yX2_length ∈ T0 := mT 435 (by decide +kernel) (by decide +kernel)
theorem q436 : Cond.code yX2_length cX2_length 1 (some FieldType.int) ∈ T0 := mT 436 (by decide +kernel) (by decide +kernel)
theorem q437 : Cond.methodLink RX4 139 yX2_append ∈ T0 := mT 437 (by decide +kernel) (by decide +kernel)
theorem q438 : Cond.instanceMethod yX2_append ∈ T0 := mT 438 (by decide +kernel) (by decide +kernel)
theorem q439 : Cond.selects RX2 yX2_append yX2_append ∈ T0 := mT 439 (by decide +kernel) (by decide +kernel)
theorem q440 : Cond.code yX2_append cX2_append 2 (none : Option FieldType) ∈ T0 := mT 440 (by decide +kernel) (by decide +kernel)
theorem q441 : Cond.methodLink RL 63 yX4_clearText ∈ T0 := mT 441 (by decide +kernel) (by decide +kernel)
theorem q442 : Cond.instanceMethod yX4_clearText ∈ T0 := mT 442 (by decide +kernel) (by decide +kernel)
theorem q443 : Cond.selects RX4 yX4_clearText yX4_clearText ∈ T0 := mT 443 (by decide +kernel) (by decide +kernel)
theorem q444 : Cond.code yX4_clearText cX4_clearText 2 (some FieldType.int) ∈ T0 := mT 444 (by decide +kernel) (by decide +kernel)
theorem q445 : Cond.methodLink RX4 143 yX2_empty ∈ T0 := mT 445 (by decide +kernel) (by decide +kernel)
theorem q446 : Cond.instanceMethod yX2_empty ∈ T0 := mT 446 (by decide +kernel) (by decide +kernel)
theorem q447 : Cond.selects RX2 yX2_empty yX2_empty ∈ T0 := mT 447 (by decide +kernel) (by decide +kernel)
theorem q448 : Cond.code yX2_empty cX2_empty 1 (none : Option FieldType) ∈ T0 := mT 448 (by decide +kernel) (by decide +kernel)
theorem q449 : Cond.methodLink RL 67 yX4_fault ∈ T0 := mT 449 (by decide +kernel) (by decide +kernel)
theorem q450 : Cond.instanceMethod yX4_fault ∈ T0 := mT 450 (by decide +kernel) (by decide +kernel)
theorem q451 : Cond.selects RX4 yX4_fault yX4_fault ∈ T0 := mT 451 (by decide +kernel) (by decide +kernel)
theorem q452 : Cond.code yX4_fault cX4_fault 2 (some FieldType.int) ∈ T0 := mT 452 (by decide +kernel) (by decide +kernel)
theorem q453 : Cond.methodLink RL 71 yX4_undo ∈ T0 := mT 453 (by decide +kernel) (by decide +kernel)
theorem q454 : Cond.instanceMethod yX4_undo ∈ T0 := mT 454 (by decide +kernel) (by decide +kernel)
theorem q455 : Cond.selects RX4 yX4_undo yX4_undo ∈ T0 := mT 455 (by decide +kernel) (by decide +kernel)
theorem q456 : Cond.code yX4_undo cX4_undo 1 (some FieldType.int) ∈ T0 := mT 456 (by decide +kernel) (by decide +kernel)
theorem q457 : Cond.methodLink RX4 146 yX0_size ∈ T0 := mT 457 (by decide +kernel) (by decide +kernel)
theorem q458 : Cond.instanceMethod yX0_size ∈ T0 := mT 458 (by decide +kernel) (by decide +kernel)
theorem q459 : Cond.selects RX0 yX0_size yX0_size ∈ T0 := mT 459 (by decide +kernel) (by decide +kernel)
theorem q460 : Cond.code yX0_size cX0_size 1 (some FieldType.int) ∈ T0 := mT 460 (by decide +kernel) (by decide +kernel)
theorem q461 : Cond.methodLink RX4 149 yX0_takeLatest ∈ T0 := mT 461 (by decide +kernel) (by decide +kernel)
theorem q462 : Cond.instanceMethod yX0_takeLatest ∈ T0 := mT 462 (by decide +kernel) (by decide +kernel)
theorem q463 : Cond.selects RX0 yX0_takeLatest yX0_takeLatest ∈ T0 := mT 463 (by decide +kernel) (by decide +kernel)
theorem q464 : Cond.code yX0_takeLatest cX0_takeLatest 4 (none : Option FieldType) ∈ T0 := mT 464 (by decide +kernel) (by decide +kernel)
theorem q465 : Cond.methodLink RL 75 yX4_keep ∈ T0 := mT 465 (by decide +kernel) (by decide +kernel)
theorem q466 : Cond.instanceMethod yX4_keep ∈ T0 := mT 466 (by decide +kernel) (by decide +kernel)
theorem q467 : Cond.selects RX4 yX4_keep yX4_keep ∈ T0 := mT 467 (by decide +kernel) (by decide +kernel)
theorem q468 : Cond.code yX4_keep cX4_keep 1 (some FieldType.int) ∈ T0 := mT 468 (by decide +kernel) (by decide +kernel)
theorem q469 : Cond.methodLink RX4 152 yX3_copy ∈ T0 := mT 469 (by decide +kernel) (by decide +kernel)
theorem q470 : Cond.methodLink RL 79 yX4_restore ∈ T0 := mT 470 (by decide +kernel) (by decide +kernel)
theorem q471 : Cond.instanceMethod yX4_restore ∈ T0 := mT 471 (by decide +kernel) (by decide +kernel)
theorem q472 : Cond.selects RX4 yX4_restore yX4_restore ∈ T0 := mT 472 (by decide +kernel) (by decide +kernel)
theorem q473 : Cond.code yX4_restore cX4_restore 1 (some FieldType.int) ∈ T0 := mT 473 (by decide +kernel) (by decide +kernel)
theorem q474 : Cond.methodLink RL 83 yX4_place ∈ T0 := mT 474 (by decide +kernel) (by decide +kernel)
theorem q475 : Cond.instanceMethod yX4_place ∈ T0 := mT 475 (by decide +kernel) (by decide +kernel)
theorem q476 : Cond.selects RX4 yX4_place yX4_place ∈ T0 := mT 476 (by decide +kernel) (by decide +kernel)
theorem q477 : Cond.code yX4_place cX4_place 3 (some FieldType.int) ∈ T0 := mT 477 (by decide +kernel) (by decide +kernel)
theorem q478 : Cond.methodLink RX4 155 yX1_target ∈ T0 := mT 478 (by decide +kernel) (by decide +kernel)
theorem q479 : Cond.methodLink RX4 158 yX1_source ∈ T0 := mT 479 (by decide +kernel) (by decide +kernel)
theorem q480 : Cond.instanceMethod yX1_source ∈ T0 := mT 480 (by decide +kernel) (by decide +kernel)
theorem q481 : Cond.selects RX1 yX1_source yX1_source ∈ T0 := mT 481 (by decide +kernel) (by decide +kernel)
theorem q482 : Cond.code yX1_source cX1_source 2 (some FieldType.int) ∈ T0 := mT 482 (by decide +kernel) (by decide +kernel)
theorem q483 : Cond.methodLink RX4 161 yX1_round ∈ T0 := mT 483 (by decide +kernel) (by decide +kernel)
theorem q484 : Cond.methodLink RX4 164 yX4_lowest ∈ T0 := mT 484 (by decide +kernel) (by decide +kernel)
theorem q485 : Cond.static yX4_lowest ∈ T0 := mT 485 (by decide +kernel) (by decide +kernel)
theorem q486 : Cond.code yX4_lowest cX4_lowest 2 (some FieldType.int) ∈ T0 := mT 486 (by decide +kernel) (by decide +kernel)
theorem q487 : Cond.methodLink RX4 167 yX3_ticketsWithHole ∈ T0 := mT 487 (by decide +kernel) (by decide +kernel)
theorem q488 : Cond.instanceMethod yX3_ticketsWithHole ∈ T0 := mT 488 (by decide +kernel) (by decide +kernel)
theorem q489 : Cond.selects RX3 yX3_ticketsWithHole yX3_ticketsWithHole ∈ T0 := mT 489 (by decide +kernel) (by decide +kernel)
theorem q490 : Cond.code yX3_ticketsWithHole cX3_ticketsWithHole 4 (some FieldType.int) ∈ T0 := mT 490 (by decide +kernel) (by decide +kernel)
theorem q491 : Cond.methodLink RL 87 yX4_move ∈ T0 := mT 491 (by decide +kernel) (by decide +kernel)
theorem q492 : Cond.instanceMethod yX4_move ∈ T0 := mT 492 (by decide +kernel) (by decide +kernel)
theorem q493 : Cond.selects RX4 yX4_move yX4_move ∈ T0 := mT 493 (by decide +kernel) (by decide +kernel)
theorem q494 : Cond.code yX4_move cX4_move 2 (some FieldType.int) ∈ T0 := mT 494 (by decide +kernel) (by decide +kernel)
theorem q495 : Cond.methodLink RX4 170 yX1_rounds ∈ T0 := mT 495 (by decide +kernel) (by decide +kernel)
theorem q496 : Cond.instanceMethod yX1_rounds ∈ T0 := mT 496 (by decide +kernel) (by decide +kernel)
theorem q497 : Cond.selects RX1 yX1_rounds yX1_rounds ∈ T0 := mT 497 (by decide +kernel) (by decide +kernel)
theorem q498 : Cond.code yX1_rounds cX1_rounds 4 (some FieldType.int) ∈ T0 := mT 498 (by decide +kernel) (by decide +kernel)
theorem q499 : Cond.methodLink RX4 173 yX1_fixedPlaces ∈ T0 := mT 499 (by decide +kernel) (by decide +kernel)
theorem q500 : Cond.instanceMethod yX1_fixedPlaces ∈ T0 := mT 500 (by decide +kernel) (by decide +kernel)
theorem q501 : Cond.selects RX1 yX1_fixedPlaces yX1_fixedPlaces ∈ T0 := mT 501 (by decide +kernel) (by decide +kernel)
theorem q502 : Cond.code yX1_fixedPlaces cX1_fixedPlaces 3 (some FieldType.int) ∈ T0 := mT 502 (by decide +kernel) (by decide +kernel)
theorem q503 : Cond.methodLink RX4 176 yX1_longestRound ∈ T0 := mT 503 (by decide +kernel) (by decide +kernel)
theorem q504 : Cond.instanceMethod yX1_longestRound ∈ T0 := mT 504 (by decide +kernel) (by decide +kernel)
theorem q505 : Cond.selects RX1 yX1_longestRound yX1_longestRound ∈ T0 := mT 505 (by decide +kernel) (by decide +kernel)
theorem q506 : Cond.code yX1_longestRound cX1_longestRound 3 (some FieldType.int) ∈ T0 := mT 506 (by decide +kernel) (by decide +kernel)
theorem q507 : Cond.methodLink RX1 58 yJ9_max_7cf53 ∈ T0 := mT 507 (by decide +kernel) (by decide +kernel)
theorem q508 : Cond.static yJ9_max_7cf53 ∈ T0 := mT 508 (by decide +kernel) (by decide +kernel)
theorem q509 : Cond.code yJ9_max_7cf53 cJ9_max_7cf53 2 (some FieldType.int) ∈ T0 := mT 509 (by decide +kernel) (by decide +kernel)
theorem q510 : Cond.methodLink RX4 179 yX1_isEven ∈ T0 := mT 510 (by decide +kernel) (by decide +kernel)
theorem q511 : Cond.instanceMethod yX1_isEven ∈ T0 := mT 511 (by decide +kernel) (by decide +kernel)
theorem q512 : Cond.selects RX1 yX1_isEven yX1_isEven ∈ T0 := mT 512 (by decide +kernel) (by decide +kernel)
theorem q513 : Cond.code yX1_isEven cX1_isEven 1 (some FieldType.boolean) ∈ T0 := mT 513 (by decide +kernel) (by decide +kernel)
theorem q514 : Cond.methodLink RX1 63 yX1_rounds ∈ T0 := mT 514 (by decide +kernel) (by decide +kernel)
theorem q515 : Cond.methodLink RL 91 yX4_power ∈ T0 := mT 515 (by decide +kernel) (by decide +kernel)
theorem q516 : Cond.instanceMethod yX4_power ∈ T0 := mT 516 (by decide +kernel) (by decide +kernel)
theorem q517 : Cond.selects RX4 yX4_power yX4_power ∈ T0 := mT 517 (by decide +kernel) (by decide +kernel)
theorem q518 : Cond.code yX4_power cX4_power 3 (some FieldType.int) ∈ T0 := mT 518 (by decide +kernel) (by decide +kernel)
theorem q519 : Cond.methodLink RX4 183 yX1_targetBehind ∈ T0 := mT 519 (by decide +kernel) (by decide +kernel)
theorem q520 : Cond.methodLink RL 95 yX4_ticket ∈ T0 := mT 520 (by decide +kernel) (by decide +kernel)
theorem q521 : Cond.instanceMethod yX4_ticket ∈ T0 := mT 521 (by decide +kernel) (by decide +kernel)
theorem q522 : Cond.selects RX4 yX4_ticket yX4_ticket ∈ T0 := mT 522 (by decide +kernel) (by decide +kernel)
theorem q523 : Cond.code yX4_ticket cX4_ticket 5 (some FieldType.int) ∈ T0 := mT 523 (by decide +kernel) (by decide +kernel)
theorem q524 : Cond.methodLink RX4 187 yX1_movesUntilSame ∈ T0 := mT 524 (by decide +kernel) (by decide +kernel)
theorem q525 : Cond.instanceMethod yX1_movesUntilSame ∈ T0 := mT 525 (by decide +kernel) (by decide +kernel)
theorem q526 : Cond.selects RX1 yX1_movesUntilSame yX1_movesUntilSame ∈ T0 := mT 526 (by decide +kernel) (by decide +kernel)
theorem q527 : Cond.code yX1_movesUntilSame cX1_movesUntilSame 2 (some FieldType.int) ∈ T0 := mT 527 (by decide +kernel) (by decide +kernel)
theorem q528 : Cond.methodLink RX1 76 yX1_moved ∈ T0 := mT 528 (by decide +kernel) (by decide +kernel)
theorem q529 : Cond.instanceMethod yX1_moved ∈ T0 := mT 529 (by decide +kernel) (by decide +kernel)
theorem q530 : Cond.selects RX1 yX1_moved yX1_moved ∈ T0 := mT 530 (by decide +kernel) (by decide +kernel)
theorem q531 : Cond.code yX1_moved cX1_moved 4 (some FieldType.int) ∈ T0 := mT 531 (by decide +kernel) (by decide +kernel)
theorem q532 : Cond.methodLink RX1 79 yX1_movesUntilAlike ∈ T0 := mT 532 (by decide +kernel) (by decide +kernel)
theorem q533 : Cond.instanceMethod yX1_movesUntilAlike ∈ T0 := mT 533 (by decide +kernel) (by decide +kernel)
theorem q534 : Cond.selects RX1 yX1_movesUntilAlike yX1_movesUntilAlike ∈ T0 := mT 534 (by decide +kernel) (by decide +kernel)
theorem q535 : Cond.code yX1_movesUntilAlike cX1_movesUntilAlike 6 (some FieldType.int) ∈ T0 := mT 535 (by decide +kernel) (by decide +kernel)
theorem q536 : Cond.methodLink RX4 190 yX3_turnedBy ∈ T0 := mT 536 (by decide +kernel) (by decide +kernel)
theorem q537 : Cond.instanceMethod yX3_turnedBy ∈ T0 := mT 537 (by decide +kernel) (by decide +kernel)
theorem q538 : Cond.selects RX3 yX3_turnedBy yX3_turnedBy ∈ T0 := mT 538 (by decide +kernel) (by decide +kernel)
theorem q539 : Cond.code yX3_turnedBy cX3_turnedBy 2 (some FieldType.int) ∈ T0 := mT 539 (by decide +kernel) (by decide +kernel)
theorem q540 : Cond.methodLink RL 99 yX4_alikeIn ∈ T0 := mT 540 (by decide +kernel) (by decide +kernel)
theorem q541 : Cond.instanceMethod yX4_alikeIn ∈ T0 := mT 541 (by decide +kernel) (by decide +kernel)
theorem q542 : Cond.selects RX4 yX4_alikeIn yX4_alikeIn ∈ T0 := mT 542 (by decide +kernel) (by decide +kernel)
theorem q543 : Cond.code yX4_alikeIn cX4_alikeIn 3 (some FieldType.int) ∈ T0 := mT 543 (by decide +kernel) (by decide +kernel)
theorem q544 : Cond.methodLink RX4 193 yX1_movesUntilAlike ∈ T0 := mT 544 (by decide +kernel) (by decide +kernel)
theorem q545 : Cond.methodLink RL 103 yX4_meetsIn ∈ T0 := mT 545 (by decide +kernel) (by decide +kernel)
theorem q546 : Cond.instanceMethod yX4_meetsIn ∈ T0 := mT 546 (by decide +kernel) (by decide +kernel)
theorem q547 : Cond.selects RX4 yX4_meetsIn yX4_meetsIn ∈ T0 := mT 547 (by decide +kernel) (by decide +kernel)
theorem q548 : Cond.code yX4_meetsIn cX4_meetsIn 3 (some FieldType.int) ∈ T0 := mT 548 (by decide +kernel) (by decide +kernel)
theorem q549 : Cond.methodLink RX4 196 yX1_movesUntilMeeting ∈ T0 := mT 549 (by decide +kernel) (by decide +kernel)
theorem q550 : Cond.instanceMethod yX1_movesUntilMeeting ∈ T0 := mT 550 (by decide +kernel) (by decide +kernel)
theorem q551 : Cond.selects RX1 yX1_movesUntilMeeting yX1_movesUntilMeeting ∈ T0 := mT 551 (by decide +kernel) (by decide +kernel)
theorem q552 : Cond.code yX1_movesUntilMeeting cX1_movesUntilMeeting 5 (some FieldType.int) ∈ T0 := mT 552 (by decide +kernel) (by decide +kernel)
theorem q553 : Cond.methodLink RL 107 yX4_reason ∈ T0 := mT 553 (by decide +kernel) (by decide +kernel)
theorem q554 : Cond.instanceMethod yX4_reason ∈ T0 := mT 554 (by decide +kernel) (by decide +kernel)
theorem q555 : Cond.selects RX4 yX4_reason yX4_reason ∈ T0 := mT 555 (by decide +kernel) (by decide +kernel)
theorem q556 : Cond.code yX4_reason cX4_reason 5 (some FieldType.int) ∈ T0 := mT 556 (by decide +kernel) (by decide +kernel)
theorem q557 : Cond.methodLink RX4 199 yX1_hasLikeNumbersInRounds ∈ T0 := mT 557 (by decide +kernel) (by decide +kernel)
theorem q558 : Cond.instanceMethod yX1_hasLikeNumbersInRounds ∈ T0 := mT 558 (by decide +kernel) (by decide +kernel)
theorem q559 : Cond.selects RX1 yX1_hasLikeNumbersInRounds yX1_hasLikeNumbersInRounds ∈ T0 := mT 559 (by decide +kernel) (by decide +kernel)
theorem q560 : Cond.code yX1_hasLikeNumbersInRounds cX1_hasLikeNumbersInRounds 5 (some FieldType.boolean) ∈ T0 := mT 560 (by decide +kernel) (by decide +kernel)
theorem q561 : Cond.methodLink RL 111 yX4_kin ∈ T0 := mT 561 (by decide +kernel) (by decide +kernel)
theorem q562 : Cond.instanceMethod yX4_kin ∈ T0 := mT 562 (by decide +kernel) (by decide +kernel)
theorem q563 : Cond.selects RX4 yX4_kin yX4_kin ∈ T0 := mT 563 (by decide +kernel) (by decide +kernel)
theorem q564 : Cond.code yX4_kin cX4_kin 2 (some FieldType.int) ∈ T0 := mT 564 (by decide +kernel) (by decide +kernel)
theorem q565 : Cond.methodLink RX4 202 yX3_kinOf ∈ T0 := mT 565 (by decide +kernel) (by decide +kernel)
theorem q566 : Cond.instanceMethod yX3_kinOf ∈ T0 := mT 566 (by decide +kernel) (by decide +kernel)
theorem q567 : Cond.selects RX3 yX3_kinOf yX3_kinOf ∈ T0 := mT 567 (by decide +kernel) (by decide +kernel)
theorem q568 : Cond.code yX3_kinOf cX3_kinOf 6 (some FieldType.int) ∈ T0 := mT 568 (by decide +kernel) (by decide +kernel)
theorem q569 : Cond.methodLink RX3 86 yX1_order ∈ T0 := mT 569 (by decide +kernel) (by decide +kernel)
theorem q570 : Cond.methodLink RX3 90 yX3_ticketsWithHoles ∈ T0 := mT 570 (by decide +kernel) (by decide +kernel)
theorem q572 : Cond.instanceMethod yX3_ticketsWithHoles ∈ T0 := mT 572 (by decide +kernel) (by decide +kernel)
theorem q573 : Cond.code yX3_ticketsWithHoles cX3_ticketsWithHoles 4 (some FieldType.int) ∈ T0 := mT 573 (by decide +kernel) (by decide +kernel)
theorem q574 : Cond.methodLink RX3 93 yX1_moved ∈ T0 := mT 574 (by decide +kernel) (by decide +kernel)
theorem q575 : Cond.methodLink RL 115 yX4_light ∈ T0 := mT 575 (by decide +kernel) (by decide +kernel)
theorem q576 : Cond.instanceMethod yX4_light ∈ T0 := mT 576 (by decide +kernel) (by decide +kernel)
theorem q577 : Cond.selects RX4 yX4_light yX4_light ∈ T0 := mT 577 (by decide +kernel) (by decide +kernel)
theorem q578 : Cond.code yX4_light cX4_light 1 (some FieldType.int) ∈ T0 := mT 578 (by decide +kernel) (by decide +kernel)
theorem q579 : Cond.methodLink RX4 205 yX3_lightPlaces ∈ T0 := mT 579 (by decide +kernel) (by decide +kernel)
theorem q580 : Cond.instanceMethod yX3_lightPlaces ∈ T0 := mT 580 (by decide +kernel) (by decide +kernel)
theorem q581 : Cond.selects RX3 yX3_lightPlaces yX3_lightPlaces ∈ T0 := mT 581 (by decide +kernel) (by decide +kernel)
theorem q582 : Cond.code yX3_lightPlaces cX3_lightPlaces 1 (some FieldType.int) ∈ T0 := mT 582 (by decide +kernel) (by decide +kernel)
theorem q583 : Cond.methodLink RX3 96 yX3_commonHoles ∈ T0 := mT 583 (by decide +kernel) (by decide +kernel)
theorem q585 : Cond.instanceMethod yX3_commonHoles ∈ T0 := mT 585 (by decide +kernel) (by decide +kernel)
theorem q586 : Cond.code yX3_commonHoles cX3_commonHoles 4 (some FieldType.int) ∈ T0 := mT 586 (by decide +kernel) (by decide +kernel)
theorem q587 : Cond.constant RX3 102 (16777215 : Int32) ∈ T0 := mT 587 (by decide +kernel) (by decide +kernel)
theorem q588 : Cond.methodLink RL 119 yX4_bestTurn ∈ T0 := mT 588 (by decide +kernel) (by decide +kernel)
theorem q589 : Cond.instanceMethod yX4_bestTurn ∈ T0 := mT 589 (by decide +kernel) (by decide +kernel)
theorem q590 : Cond.selects RX4 yX4_bestTurn yX4_bestTurn ∈ T0 := mT 590 (by decide +kernel) (by decide +kernel)
theorem q591 : Cond.code yX4_bestTurn cX4_bestTurn 3 (some FieldType.int) ∈ T0 := mT 591 (by decide +kernel) (by decide +kernel)
theorem q592 : Cond.methodLink RX4 208 yX3_bestPower ∈ T0 := mT 592 (by decide +kernel) (by decide +kernel)
theorem q593 : Cond.instanceMethod yX3_bestPower ∈ T0 := mT 593 (by decide +kernel) (by decide +kernel)
theorem q594 : Cond.selects RX3 yX3_bestPower yX3_bestPower ∈ T0 := mT 594 (by decide +kernel) (by decide +kernel)
theorem q595 : Cond.code yX3_bestPower cX3_bestPower 9 (some FieldType.int) ∈ T0 := mT 595 (by decide +kernel) (by decide +kernel)
theorem q596 : Cond.methodLink RX4 211 yX3_mostLight ∈ T0 := mT 596 (by decide +kernel) (by decide +kernel)
theorem q597 : Cond.instanceMethod yX3_mostLight ∈ T0 := mT 597 (by decide +kernel) (by decide +kernel)
theorem q598 : Cond.selects RX3 yX3_mostLight yX3_mostLight ∈ T0 := mT 598 (by decide +kernel) (by decide +kernel)
theorem q599 : Cond.code yX3_mostLight cX3_mostLight 3 (some FieldType.int) ∈ T0 := mT 599 (by decide +kernel) (by decide +kernel)
theorem q600 : Cond.methodLink RX3 99 yX3_bestPower ∈ T0 := mT 600 (by decide +kernel) (by decide +kernel)
theorem q601 : Cond.methodLink RL 123 yX4_count ∈ T0 := mT 601 (by decide +kernel) (by decide +kernel)
theorem q602 : Cond.instanceMethod yX4_count ∈ T0 := mT 602 (by decide +kernel) (by decide +kernel)
theorem q603 : Cond.selects RX4 yX4_count yX4_count ∈ T0 := mT 603 (by decide +kernel) (by decide +kernel)
theorem q604 : Cond.code yX4_count cX4_count 2 (some FieldType.int) ∈ T0 := mT 604 (by decide +kernel) (by decide +kernel)
theorem q605 : Cond.methodLink RX4 214 yX3_falseTickets ∈ T0 := mT 605 (by decide +kernel) (by decide +kernel)
theorem q606 : Cond.instanceMethod yX3_falseTickets ∈ T0 := mT 606 (by decide +kernel) (by decide +kernel)
theorem q607 : Cond.selects RX3 yX3_falseTickets yX3_falseTickets ∈ T0 := mT 607 (by decide +kernel) (by decide +kernel)
theorem q608 : Cond.code yX3_falseTickets cX3_falseTickets 3 (some FieldType.int) ∈ T0 := mT 608 (by decide +kernel) (by decide +kernel)
theorem q609 : Cond.methodLink RX3 83 yX3_isFalse ∈ T0 := mT 609 (by decide +kernel) (by decide +kernel)
theorem q610 : Cond.methodLink RX4 217 yX3_allHoles ∈ T0 := mT 610 (by decide +kernel) (by decide +kernel)
theorem q611 : Cond.instanceMethod yX3_allHoles ∈ T0 := mT 611 (by decide +kernel) (by decide +kernel)
theorem q612 : Cond.selects RX3 yX3_allHoles yX3_allHoles ∈ T0 := mT 612 (by decide +kernel) (by decide +kernel)
theorem q613 : Cond.code yX3_allHoles cX3_allHoles 3 (some FieldType.int) ∈ T0 := mT 613 (by decide +kernel) (by decide +kernel)
theorem q614 : Cond.methodLink RX4 220 yX3_allDue ∈ T0 := mT 614 (by decide +kernel) (by decide +kernel)
theorem q615 : Cond.instanceMethod yX3_allDue ∈ T0 := mT 615 (by decide +kernel) (by decide +kernel)
theorem q616 : Cond.selects RX3 yX3_allDue yX3_allDue ∈ T0 := mT 616 (by decide +kernel) (by decide +kernel)
theorem q617 : Cond.code yX3_allDue cX3_allDue 3 (some FieldType.int) ∈ T0 := mT 617 (by decide +kernel) (by decide +kernel)
theorem q618 : Cond.methodLink RX4 223 yX3_punched ∈ T0 := mT 618 (by decide +kernel) (by decide +kernel)
theorem q619 : Cond.instanceMethod yX3_punched ∈ T0 := mT 619 (by decide +kernel) (by decide +kernel)
theorem q620 : Cond.selects RX3 yX3_punched yX3_punched ∈ T0 := mT 620 (by decide +kernel) (by decide +kernel)
theorem q621 : Cond.code yX3_punched cX3_punched 1 (some FieldType.int) ∈ T0 := mT 621 (by decide +kernel) (by decide +kernel)
theorem q622 : Cond.methodLink RX4 226 yX3_frauds ∈ T0 := mT 622 (by decide +kernel) (by decide +kernel)
theorem q623 : Cond.instanceMethod yX3_frauds ∈ T0 := mT 623 (by decide +kernel) (by decide +kernel)
theorem q624 : Cond.selects RX3 yX3_frauds yX3_frauds ∈ T0 := mT 624 (by decide +kernel) (by decide +kernel)
theorem q625 : Cond.code yX3_frauds cX3_frauds 1 (some FieldType.int) ∈ T0 := mT 625 (by decide +kernel) (by decide +kernel)
theorem q626 : Cond.methodLink RX4 229 yX3_turns ∈ T0 := mT 626 (by decide +kernel) (by decide +kernel)
theorem q627 : Cond.instanceMethod yX3_turns ∈ T0 := mT 627 (by decide +kernel) (by decide +kernel)
theorem q628 : Cond.selects RX3 yX3_turns yX3_turns ∈ T0 := mT 628 (by decide +kernel) (by decide +kernel)
theorem q629 : Cond.code yX3_turns cX3_turns 1 (some FieldType.int) ∈ T0 := mT 629 (by decide +kernel) (by decide +kernel)
theorem q630 : Cond.classLink RL 10 RX5 ∈ T0 := mT 630 (by decide +kernel) (by decide +kernel)
theorem q631 : Cond.instantiable RX5 14 ∈ T0 := mT 631 (by decide +kernel) (by decide +kernel)
theorem q632 : Cond.methodLink RL 12 yX5_init ∈ T0 := mT 632 (by decide +kernel) (by decide +kernel)
theorem q633 : Cond.instanceMethod yX5_init ∈ T0 := mT 633 (by decide +kernel) (by decide +kernel)
theorem q634 : Cond.code yX5_init cX5_init 2 (none : Option FieldType) ∈ T0 := mT 634 (by decide +kernel) (by decide +kernel)
theorem q635 : Cond.methodLink RX5 1 objectInit ∈ T0 := mT 635 (by decide +kernel) (by decide +kernel)
theorem q636 : Cond.fieldLink RX5 7 "HoleTicketsModel" "s" "[I" ∈ T0 := mT 636 (by decide +kernel) (by decide +kernel)
theorem q637 : Cond.fieldLink RX5 13 "HoleTicketsModel" "past" "[I" ∈ T0 := mT 637 (by decide +kernel) (by decide +kernel)
theorem q638 : Cond.fieldLink RX5 30 "HoleTicketsModel" "pasts" "I" ∈ T0 := mT 638 (by decide +kernel) (by decide +kernel)
theorem q639 : Cond.fieldLink RX5 16 "HoleTicketsModel" "snapshot" "[I" ∈ T0 := mT 639 (by decide +kernel) (by decide +kernel)
theorem q640 : Cond.fieldLink RX5 126 "HoleTicketsModel" "isKept" "Z" ∈ T0 := mT 640 (by decide +kernel) (by decide +kernel)
theorem q641 : Cond.fieldLink RX5 19 "HoleTicketsModel" "text" "[C" ∈ T0 := mT 641 (by decide +kernel) (by decide +kernel)
theorem q642 : Cond.fieldLink RX5 58 "HoleTicketsModel" "length" "I" ∈ T0 := mT 642 (by decide +kernel) (by decide +kernel)
theorem q643 : Cond.fieldLink RX5 23 "HoleTicketsModel" "made" "[I" ∈ T0 := mT 643 (by decide +kernel) (by decide +kernel)
theorem q644 : Cond.fieldLink RX5 61 "HoleTicketsModel" "spot" "I" ∈ T0 := mT 644 (by decide +kernel) (by decide +kernel)
theorem q645 : Cond.fieldLink RX5 64 "HoleTicketsModel" "kind" "I" ∈ T0 := mT 645 (by decide +kernel) (by decide +kernel)
theorem q646 : Cond.fieldLink RX5 74 "HoleTicketsModel" "came" "I" ∈ T0 := mT 646 (by decide +kernel) (by decide +kernel)
theorem q647 : Cond.fieldLink RX5 80 "HoleTicketsModel" "first" "I" ∈ T0 := mT 647 (by decide +kernel) (by decide +kernel)
theorem q648 : Cond.fieldLink RX5 83 "HoleTicketsModel" "last" "I" ∈ T0 := mT 648 (by decide +kernel) (by decide +kernel)
theorem q649 : Cond.fieldLink RX5 77 "HoleTicketsModel" "inRound" "I" ∈ T0 := mT 649 (by decide +kernel) (by decide +kernel)
theorem q679 : Cond.methodLink RL 17 yX5_exchange ∈ T0 := mT 679 (by decide +kernel) (by decide +kernel)
theorem q680 : Cond.instanceMethod yX5_exchange ∈ T0 := mT 680 (by decide +kernel) (by decide +kernel)
theorem q681 : Cond.selects RX5 yX5_exchange yX5_exchange ∈ T0 := mT 681 (by decide +kernel) (by decide +kernel)
theorem q682 : Cond.code yX5_exchange cX5_exchange 4 (some FieldType.int) ∈ T0 := mT 682 (by decide +kernel) (by decide +kernel)
theorem q683 : Cond.methodLink RX5 45 yX5_isPlace ∈ T0 := mT 683 (by decide +kernel) (by decide +kernel)
theorem q684 : Cond.static yX5_isPlace ∈ T0 := mT 684 (by decide +kernel) (by decide +kernel)
theorem q685 : Cond.code yX5_isPlace cX5_isPlace 1 (some FieldType.boolean) ∈ T0 := mT 685 (by decide +kernel) (by decide +kernel)
theorem q686 : Cond.methodLink RX5 26 yX5_in ∈ T0 := mT 686 (by decide +kernel) (by decide +kernel)
theorem q687 : Cond.static yX5_in ∈ T0 := mT 687 (by decide +kernel) (by decide +kernel)
theorem q688 : Cond.code yX5_in cX5_in 3 (some FieldType.boolean) ∈ T0 := mT 688 (by decide +kernel) (by decide +kernel)
theorem q689 : Cond.methodLink RX5 49 yX5_records ∈ T0 := mT 689 (by decide +kernel) (by decide +kernel)
theorem q691 : Cond.instanceMethod yX5_records ∈ T0 := mT 691 (by decide +kernel) (by decide +kernel)
theorem q692 : Cond.code yX5_records cX5_records 2 (none : Option FieldType) ∈ T0 := mT 692 (by decide +kernel) (by decide +kernel)
theorem q693 : Cond.methodLink RX5 38 yX5_order ∈ T0 := mT 693 (by decide +kernel) (by decide +kernel)
theorem q695 : Cond.instanceMethod yX5_order ∈ T0 := mT 695 (by decide +kernel) (by decide +kernel)
theorem q696 : Cond.code yX5_order cX5_order 5 (some FieldType.int) ∈ T0 := mT 696 (by decide +kernel) (by decide +kernel)
theorem q697 : Cond.methodLink RX5 34 yX5_longOf ∈ T0 := mT 697 (by decide +kernel) (by decide +kernel)
theorem q699 : Cond.instanceMethod yX5_longOf ∈ T0 := mT 699 (by decide +kernel) (by decide +kernel)
theorem q700 : Cond.code yX5_longOf cX5_longOf 4 (some FieldType.int) ∈ T0 := mT 700 (by decide +kernel) (by decide +kernel)
theorem q701 : Cond.methodLink RL 22 yX5_reverse ∈ T0 := mT 701 (by decide +kernel) (by decide +kernel)
theorem q702 : Cond.instanceMethod yX5_reverse ∈ T0 := mT 702 (by decide +kernel) (by decide +kernel)
theorem q703 : Cond.selects RX5 yX5_reverse yX5_reverse ∈ T0 := mT 703 (by decide +kernel) (by decide +kernel)
theorem q704 : Cond.code yX5_reverse cX5_reverse 3 (some FieldType.int) ∈ T0 := mT 704 (by decide +kernel) (by decide +kernel)
theorem q705 : Cond.methodLink RX5 52 yX5_sourceOf ∈ T0 := mT 705 (by decide +kernel) (by decide +kernel)
theorem q707 : Cond.instanceMethod yX5_sourceOf ∈ T0 := mT 707 (by decide +kernel) (by decide +kernel)
theorem q708 : Cond.code yX5_sourceOf cX5_sourceOf 4 (some FieldType.int) ∈ T0 := mT 708 (by decide +kernel) (by decide +kernel)
theorem q709 : Cond.methodLink RX5 55 yX5_takes ∈ T0 := mT 709 (by decide +kernel) (by decide +kernel)
theorem q711 : Cond.instanceMethod yX5_takes ∈ T0 := mT 711 (by decide +kernel) (by decide +kernel)
theorem q712 : Cond.code yX5_takes cX5_takes 2 (none : Option FieldType) ∈ T0 := mT 712 (by decide +kernel) (by decide +kernel)
theorem q713 : Cond.methodLink RL 62 yX5_type ∈ T0 := mT 713 (by decide +kernel) (by decide +kernel)
theorem q714 : Cond.instanceMethod yX5_type ∈ T0 := mT 714 (by decide +kernel) (by decide +kernel)
theorem q715 : Cond.selects RX5 yX5_type yX5_type ∈ T0 := mT 715 (by decide +kernel) (by decide +kernel)
theorem q716 : Cond.code yX5_type cX5_type 2 (some FieldType.int) ∈ T0 := mT 716 (by decide +kernel) (by decide +kernel)
theorem q717 : Cond.methodLink RL 66 yX5_clearText ∈ T0 := mT 717 (by decide +kernel) (by decide +kernel)
theorem q718 : Cond.instanceMethod yX5_clearText ∈ T0 := mT 718 (by decide +kernel) (by decide +kernel)
theorem q719 : Cond.selects RX5 yX5_clearText yX5_clearText ∈ T0 := mT 719 (by decide +kernel) (by decide +kernel)
theorem q720 : Cond.code yX5_clearText cX5_clearText 2 (some FieldType.int) ∈ T0 := mT 720 (by decide +kernel) (by decide +kernel)
theorem q721 : Cond.methodLink RL 26 yX5_readMove ∈ T0 := mT 721 (by decide +kernel) (by decide +kernel)
theorem q722 : Cond.instanceMethod yX5_readMove ∈ T0 := mT 722 (by decide +kernel) (by decide +kernel)
theorem q723 : Cond.selects RX5 yX5_readMove yX5_readMove ∈ T0 := mT 723 (by decide +kernel) (by decide +kernel)
theorem q724 : Cond.code yX5_readMove cX5_readMove 1 (some FieldType.int) ∈ T0 := mT 724 (by decide +kernel) (by decide +kernel)
theorem q725 : Cond.methodLink RX5 96 yX5_isMove ∈ T0 := mT 725 (by decide +kernel) (by decide +kernel)
theorem q727 : Cond.instanceMethod yX5_isMove ∈ T0 := mT 727 (by decide +kernel) (by decide +kernel)
theorem q728 : Cond.code yX5_isMove cX5_isMove 2 (some FieldType.boolean) ∈ T0 := mT 728 (by decide +kernel) (by decide +kernel)
theorem q729 : Cond.methodLink RX5 93 yX5_round ∈ T0 := mT 729 (by decide +kernel) (by decide +kernel)
theorem q731 : Cond.instanceMethod yX5_round ∈ T0 := mT 731 (by decide +kernel) (by decide +kernel)
theorem q732 : Cond.code yX5_round cX5_round 2 (none : Option FieldType) ∈ T0 := mT 732 (by decide +kernel) (by decide +kernel)
theorem q733 : Cond.methodLink RX5 86 yX5_isAt ∈ T0 := mT 733 (by decide +kernel) (by decide +kernel)
theorem q735 : Cond.instanceMethod yX5_isAt ∈ T0 := mT 735 (by decide +kernel) (by decide +kernel)
theorem q736 : Cond.code yX5_isAt cX5_isAt 2 (some FieldType.boolean) ∈ T0 := mT 736 (by decide +kernel) (by decide +kernel)
theorem q737 : Cond.methodLink RX5 71 yX5_fails ∈ T0 := mT 737 (by decide +kernel) (by decide +kernel)
theorem q739 : Cond.instanceMethod yX5_fails ∈ T0 := mT 739 (by decide +kernel) (by decide +kernel)
theorem q740 : Cond.code yX5_fails cX5_fails 1 (none : Option FieldType) ∈ T0 := mT 740 (by decide +kernel) (by decide +kernel)
theorem q741 : Cond.methodLink RX5 90 yX5_reads ∈ T0 := mT 741 (by decide +kernel) (by decide +kernel)
theorem q743 : Cond.instanceMethod yX5_reads ∈ T0 := mT 743 (by decide +kernel) (by decide +kernel)
theorem q744 : Cond.code yX5_reads cX5_reads 3 (none : Option FieldType) ∈ T0 := mT 744 (by decide +kernel) (by decide +kernel)
theorem q745 : Cond.methodLink RX5 67 yX5_isDigit ∈ T0 := mT 745 (by decide +kernel) (by decide +kernel)
theorem q747 : Cond.instanceMethod yX5_isDigit ∈ T0 := mT 747 (by decide +kernel) (by decide +kernel)
theorem q748 : Cond.code yX5_isDigit cX5_isDigit 1 (some FieldType.boolean) ∈ T0 := mT 748 (by decide +kernel) (by decide +kernel)
theorem q749 : Cond.methodLink RL 70 yX5_fault ∈ T0 := mT 749 (by decide +kernel) (by decide +kernel)
theorem q750 : Cond.instanceMethod yX5_fault ∈ T0 := mT 750 (by decide +kernel) (by decide +kernel)
theorem q751 : Cond.selects RX5 yX5_fault yX5_fault ∈ T0 := mT 751 (by decide +kernel) (by decide +kernel)
theorem q752 : Cond.code yX5_fault cX5_fault 2 (some FieldType.int) ∈ T0 := mT 752 (by decide +kernel) (by decide +kernel)
theorem q753 : Cond.methodLink RL 31 yX5_sell ∈ T0 := mT 753 (by decide +kernel) (by decide +kernel)
theorem q754 : Cond.instanceMethod yX5_sell ∈ T0 := mT 754 (by decide +kernel) (by decide +kernel)
theorem q755 : Cond.selects RX5 yX5_sell yX5_sell ∈ T0 := mT 755 (by decide +kernel) (by decide +kernel)
theorem q756 : Cond.code yX5_sell cX5_sell 3 (some FieldType.int) ∈ T0 := mT 756 (by decide +kernel) (by decide +kernel)
theorem q757 : Cond.constant RX5 99 (16777215 : Int32) ∈ T0 := mT 757 (by decide +kernel) (by decide +kernel)
theorem q758 : Cond.methodLink RX5 100 yX5_ones ∈ T0 := mT 758 (by decide +kernel) (by decide +kernel)
theorem q759 : Cond.static yX5_ones ∈ T0 := mT 759 (by decide +kernel) (by decide +kernel)
theorem q760 : Cond.code yX5_ones cX5_ones 3 (some FieldType.int) ∈ T0 := mT 760 (by decide +kernel) (by decide +kernel)
theorem q761 : Cond.methodLink RL 35 yX5_punch ∈ T0 := mT 761 (by decide +kernel) (by decide +kernel)
theorem q762 : Cond.instanceMethod yX5_punch ∈ T0 := mT 762 (by decide +kernel) (by decide +kernel)
theorem q763 : Cond.selects RX5 yX5_punch yX5_punch ∈ T0 := mT 763 (by decide +kernel) (by decide +kernel)
theorem q764 : Cond.code yX5_punch cX5_punch 3 (some FieldType.int) ∈ T0 := mT 764 (by decide +kernel) (by decide +kernel)
theorem q765 : Cond.methodLink RX5 103 yX5_isTicket ∈ T0 := mT 765 (by decide +kernel) (by decide +kernel)
theorem q767 : Cond.instanceMethod yX5_isTicket ∈ T0 := mT 767 (by decide +kernel) (by decide +kernel)
theorem q768 : Cond.code yX5_isTicket cX5_isTicket 2 (some FieldType.boolean) ∈ T0 := mT 768 (by decide +kernel) (by decide +kernel)
theorem q769 : Cond.methodLink RL 40 yX5_forge ∈ T0 := mT 769 (by decide +kernel) (by decide +kernel)
theorem q770 : Cond.instanceMethod yX5_forge ∈ T0 := mT 770 (by decide +kernel) (by decide +kernel)
theorem q771 : Cond.selects RX5 yX5_forge yX5_forge ∈ T0 := mT 771 (by decide +kernel) (by decide +kernel)
theorem q772 : Cond.code yX5_forge cX5_forge 4 (some FieldType.int) ∈ T0 := mT 772 (by decide +kernel) (by decide +kernel)
theorem q773 : Cond.methodLink RX5 106 yX5_isFalse ∈ T0 := mT 773 (by decide +kernel) (by decide +kernel)
theorem q775 : Cond.instanceMethod yX5_isFalse ∈ T0 := mT 775 (by decide +kernel) (by decide +kernel)
theorem q776 : Cond.code yX5_isFalse cX5_isFalse 2 (some FieldType.boolean) ∈ T0 := mT 776 (by decide +kernel) (by decide +kernel)
theorem q777 : Cond.methodLink RL 44 yX5_mend ∈ T0 := mT 777 (by decide +kernel) (by decide +kernel)
theorem q778 : Cond.instanceMethod yX5_mend ∈ T0 := mT 778 (by decide +kernel) (by decide +kernel)
theorem q779 : Cond.selects RX5 yX5_mend yX5_mend ∈ T0 := mT 779 (by decide +kernel) (by decide +kernel)
theorem q780 : Cond.code yX5_mend cX5_mend 3 (some FieldType.int) ∈ T0 := mT 780 (by decide +kernel) (by decide +kernel)
theorem q781 : Cond.methodLink RL 48 yX5_turn ∈ T0 := mT 781 (by decide +kernel) (by decide +kernel)
theorem q782 : Cond.instanceMethod yX5_turn ∈ T0 := mT 782 (by decide +kernel) (by decide +kernel)
theorem q783 : Cond.selects RX5 yX5_turn yX5_turn ∈ T0 := mT 783 (by decide +kernel) (by decide +kernel)
theorem q784 : Cond.code yX5_turn cX5_turn 3 (some FieldType.int) ∈ T0 := mT 784 (by decide +kernel) (by decide +kernel)
theorem q785 : Cond.methodLink RX5 116 yX5_isPower ∈ T0 := mT 785 (by decide +kernel) (by decide +kernel)
theorem q786 : Cond.static yX5_isPower ∈ T0 := mT 786 (by decide +kernel) (by decide +kernel)
theorem q787 : Cond.code yX5_isPower cX5_isPower 1 (some FieldType.boolean) ∈ T0 := mT 787 (by decide +kernel) (by decide +kernel)
theorem q788 : Cond.methodLink RX5 109 yX5_forward ∈ T0 := mT 788 (by decide +kernel) (by decide +kernel)
theorem q790 : Cond.instanceMethod yX5_forward ∈ T0 := mT 790 (by decide +kernel) (by decide +kernel)
theorem q791 : Cond.code yX5_forward cX5_forward 4 (some FieldType.int) ∈ T0 := mT 791 (by decide +kernel) (by decide +kernel)
theorem q792 : Cond.methodLink RX5 119 yX5_turns ∈ T0 := mT 792 (by decide +kernel) (by decide +kernel)
theorem q794 : Cond.instanceMethod yX5_turns ∈ T0 := mT 794 (by decide +kernel) (by decide +kernel)
theorem q795 : Cond.code yX5_turns cX5_turns 4 (none : Option FieldType) ∈ T0 := mT 795 (by decide +kernel) (by decide +kernel)
theorem q796 : Cond.methodLink RX5 112 yX5_turned ∈ T0 := mT 796 (by decide +kernel) (by decide +kernel)
theorem q798 : Cond.instanceMethod yX5_turned ∈ T0 := mT 798 (by decide +kernel) (by decide +kernel)
theorem q799 : Cond.code yX5_turned cX5_turned 5 (some FieldType.int) ∈ T0 := mT 799 (by decide +kernel) (by decide +kernel)
theorem q800 : Cond.methodLink RX5 42 yX5_moved ∈ T0 := mT 800 (by decide +kernel) (by decide +kernel)
theorem q802 : Cond.instanceMethod yX5_moved ∈ T0 := mT 802 (by decide +kernel) (by decide +kernel)
theorem q803 : Cond.code yX5_moved cX5_moved 4 (some FieldType.int) ∈ T0 := mT 803 (by decide +kernel) (by decide +kernel)
theorem q804 : Cond.methodLink RL 53 yX5_stack ∈ T0 := mT 804 (by decide +kernel) (by decide +kernel)
theorem q805 : Cond.instanceMethod yX5_stack ∈ T0 := mT 805 (by decide +kernel) (by decide +kernel)
theorem q806 : Cond.selects RX5 yX5_stack yX5_stack ∈ T0 := mT 806 (by decide +kernel) (by decide +kernel)
theorem q807 : Cond.code yX5_stack cX5_stack 3 (some FieldType.int) ∈ T0 := mT 807 (by decide +kernel) (by decide +kernel)
theorem q808 : Cond.methodLink RX5 123 yX5_isOn ∈ T0 := mT 808 (by decide +kernel) (by decide +kernel)
theorem q810 : Cond.instanceMethod yX5_isOn ∈ T0 := mT 810 (by decide +kernel) (by decide +kernel)
theorem q811 : Cond.code yX5_isOn cX5_isOn 2 (some FieldType.boolean) ∈ T0 := mT 811 (by decide +kernel) (by decide +kernel)
theorem q812 : Cond.methodLink RL 57 yX5_turnStack ∈ T0 := mT 812 (by decide +kernel) (by decide +kernel)
theorem q813 : Cond.instanceMethod yX5_turnStack ∈ T0 := mT 813 (by decide +kernel) (by decide +kernel)
theorem q814 : Cond.selects RX5 yX5_turnStack yX5_turnStack ∈ T0 := mT 814 (by decide +kernel) (by decide +kernel)
theorem q815 : Cond.code yX5_turnStack cX5_turnStack 3 (some FieldType.int) ∈ T0 := mT 815 (by decide +kernel) (by decide +kernel)
theorem q816 : Cond.methodLink RL 74 yX5_undo ∈ T0 := mT 816 (by decide +kernel) (by decide +kernel)
theorem q817 : Cond.instanceMethod yX5_undo ∈ T0 := mT 817 (by decide +kernel) (by decide +kernel)
theorem q818 : Cond.selects RX5 yX5_undo yX5_undo ∈ T0 := mT 818 (by decide +kernel) (by decide +kernel)
theorem q819 : Cond.code yX5_undo cX5_undo 2 (some FieldType.int) ∈ T0 := mT 819 (by decide +kernel) (by decide +kernel)
theorem q820 : Cond.methodLink RL 78 yX5_keep ∈ T0 := mT 820 (by decide +kernel) (by decide +kernel)
theorem q821 : Cond.instanceMethod yX5_keep ∈ T0 := mT 821 (by decide +kernel) (by decide +kernel)
theorem q822 : Cond.selects RX5 yX5_keep yX5_keep ∈ T0 := mT 822 (by decide +kernel) (by decide +kernel)
theorem q823 : Cond.code yX5_keep cX5_keep 2 (some FieldType.int) ∈ T0 := mT 823 (by decide +kernel) (by decide +kernel)
theorem q824 : Cond.methodLink RL 82 yX5_restore ∈ T0 := mT 824 (by decide +kernel) (by decide +kernel)
theorem q825 : Cond.instanceMethod yX5_restore ∈ T0 := mT 825 (by decide +kernel) (by decide +kernel)
theorem q826 : Cond.selects RX5 yX5_restore yX5_restore ∈ T0 := mT 826 (by decide +kernel) (by decide +kernel)
theorem q827 : Cond.code yX5_restore cX5_restore 2 (some FieldType.int) ∈ T0 := mT 827 (by decide +kernel) (by decide +kernel)
theorem q828 : Cond.methodLink RL 86 yX5_place ∈ T0 := mT 828 (by decide +kernel) (by decide +kernel)
theorem q829 : Cond.instanceMethod yX5_place ∈ T0 := mT 829 (by decide +kernel) (by decide +kernel)
theorem q830 : Cond.selects RX5 yX5_place yX5_place ∈ T0 := mT 830 (by decide +kernel) (by decide +kernel)
theorem q831 : Cond.code yX5_place cX5_place 3 (some FieldType.int) ∈ T0 := mT 831 (by decide +kernel) (by decide +kernel)
theorem q832 : Cond.methodLink RX5 130 yX5_lowestOf ∈ T0 := mT 832 (by decide +kernel) (by decide +kernel)
theorem q834 : Cond.instanceMethod yX5_lowestOf ∈ T0 := mT 834 (by decide +kernel) (by decide +kernel)
theorem q835 : Cond.code yX5_lowestOf cX5_lowestOf 4 (some FieldType.int) ∈ T0 := mT 835 (by decide +kernel) (by decide +kernel)
theorem q836 : Cond.methodLink RX5 133 yX5_withHole ∈ T0 := mT 836 (by decide +kernel) (by decide +kernel)
theorem q838 : Cond.instanceMethod yX5_withHole ∈ T0 := mT 838 (by decide +kernel) (by decide +kernel)
theorem q839 : Cond.code yX5_withHole cX5_withHole 4 (some FieldType.int) ∈ T0 := mT 839 (by decide +kernel) (by decide +kernel)
theorem q840 : Cond.methodLink RL 90 yX5_move ∈ T0 := mT 840 (by decide +kernel) (by decide +kernel)
theorem q841 : Cond.instanceMethod yX5_move ∈ T0 := mT 841 (by decide +kernel) (by decide +kernel)
theorem q842 : Cond.selects RX5 yX5_move yX5_move ∈ T0 := mT 842 (by decide +kernel) (by decide +kernel)
theorem q843 : Cond.code yX5_move cX5_move 2 (some FieldType.int) ∈ T0 := mT 843 (by decide +kernel) (by decide +kernel)
theorem q844 : Cond.methodLink RX5 136 yX5_rounds ∈ T0 := mT 844 (by decide +kernel) (by decide +kernel)
theorem q846 : Cond.instanceMethod yX5_rounds ∈ T0 := mT 846 (by decide +kernel) (by decide +kernel)
theorem q847 : Cond.code yX5_rounds cX5_rounds 3 (some FieldType.int) ∈ T0 := mT 847 (by decide +kernel) (by decide +kernel)
theorem q848 : Cond.methodLink RX5 139 yX5_stays ∈ T0 := mT 848 (by decide +kernel) (by decide +kernel)
theorem q850 : Cond.instanceMethod yX5_stays ∈ T0 := mT 850 (by decide +kernel) (by decide +kernel)
theorem q851 : Cond.code yX5_stays cX5_stays 3 (some FieldType.int) ∈ T0 := mT 851 (by decide +kernel) (by decide +kernel)
theorem q852 : Cond.methodLink RX5 142 yX5_longest ∈ T0 := mT 852 (by decide +kernel) (by decide +kernel)
theorem q854 : Cond.instanceMethod yX5_longest ∈ T0 := mT 854 (by decide +kernel) (by decide +kernel)
theorem q855 : Cond.code yX5_longest cX5_longest 3 (some FieldType.int) ∈ T0 := mT 855 (by decide +kernel) (by decide +kernel)
theorem q856 : Cond.methodLink RL 94 yX5_power ∈ T0 := mT 856 (by decide +kernel) (by decide +kernel)
theorem q857 : Cond.instanceMethod yX5_power ∈ T0 := mT 857 (by decide +kernel) (by decide +kernel)
theorem q858 : Cond.selects RX5 yX5_power yX5_power ∈ T0 := mT 858 (by decide +kernel) (by decide +kernel)
theorem q859 : Cond.code yX5_power cX5_power 5 (some FieldType.int) ∈ T0 := mT 859 (by decide +kernel) (by decide +kernel)
theorem q860 : Cond.methodLink RL 98 yX5_ticket ∈ T0 := mT 860 (by decide +kernel) (by decide +kernel)
theorem q861 : Cond.instanceMethod yX5_ticket ∈ T0 := mT 861 (by decide +kernel) (by decide +kernel)
theorem q862 : Cond.selects RX5 yX5_ticket yX5_ticket ∈ T0 := mT 862 (by decide +kernel) (by decide +kernel)
theorem q863 : Cond.code yX5_ticket cX5_ticket 5 (some FieldType.int) ∈ T0 := mT 863 (by decide +kernel) (by decide +kernel)
theorem q864 : Cond.methodLink RX5 145 yX5_movesTo ∈ T0 := mT 864 (by decide +kernel) (by decide +kernel)
theorem q866 : Cond.instanceMethod yX5_movesTo ∈ T0 := mT 866 (by decide +kernel) (by decide +kernel)
theorem q867 : Cond.code yX5_movesTo cX5_movesTo 7 (some FieldType.int) ∈ T0 := mT 867 (by decide +kernel) (by decide +kernel)
theorem q868 : Cond.methodLink RL 102 yX5_alikeIn ∈ T0 := mT 868 (by decide +kernel) (by decide +kernel)
theorem q869 : Cond.instanceMethod yX5_alikeIn ∈ T0 := mT 869 (by decide +kernel) (by decide +kernel)
theorem q870 : Cond.selects RX5 yX5_alikeIn yX5_alikeIn ∈ T0 := mT 870 (by decide +kernel) (by decide +kernel)
theorem q871 : Cond.code yX5_alikeIn cX5_alikeIn 3 (some FieldType.int) ∈ T0 := mT 871 (by decide +kernel) (by decide +kernel)
theorem q872 : Cond.methodLink RL 106 yX5_meetsIn ∈ T0 := mT 872 (by decide +kernel) (by decide +kernel)
theorem q873 : Cond.instanceMethod yX5_meetsIn ∈ T0 := mT 873 (by decide +kernel) (by decide +kernel)
theorem q874 : Cond.selects RX5 yX5_meetsIn yX5_meetsIn ∈ T0 := mT 874 (by decide +kernel) (by decide +kernel)
theorem q875 : Cond.code yX5_meetsIn cX5_meetsIn 6 (some FieldType.int) ∈ T0 := mT 875 (by decide +kernel) (by decide +kernel)
theorem q876 : Cond.methodLink RL 110 yX5_reason ∈ T0 := mT 876 (by decide +kernel) (by decide +kernel)
theorem q877 : Cond.instanceMethod yX5_reason ∈ T0 := mT 877 (by decide +kernel) (by decide +kernel)
theorem q878 : Cond.selects RX5 yX5_reason yX5_reason ∈ T0 := mT 878 (by decide +kernel) (by decide +kernel)
theorem q879 : Cond.code yX5_reason cX5_reason 7 (some FieldType.int) ∈ T0 := mT 879 (by decide +kernel) (by decide +kernel)
theorem q880 : Cond.methodLink RX5 149 yX5_roundOf ∈ T0 := mT 880 (by decide +kernel) (by decide +kernel)
theorem q882 : Cond.instanceMethod yX5_roundOf ∈ T0 := mT 882 (by decide +kernel) (by decide +kernel)
theorem q883 : Cond.code yX5_roundOf cX5_roundOf 4 (some FieldType.int) ∈ T0 := mT 883 (by decide +kernel) (by decide +kernel)
theorem q884 : Cond.methodLink RL 114 yX5_kin ∈ T0 := mT 884 (by decide +kernel) (by decide +kernel)
theorem q885 : Cond.instanceMethod yX5_kin ∈ T0 := mT 885 (by decide +kernel) (by decide +kernel)
theorem q886 : Cond.selects RX5 yX5_kin yX5_kin ∈ T0 := mT 886 (by decide +kernel) (by decide +kernel)
theorem q887 : Cond.code yX5_kin cX5_kin 4 (some FieldType.int) ∈ T0 := mT 887 (by decide +kernel) (by decide +kernel)
theorem q888 : Cond.methodLink RL 118 yX5_light ∈ T0 := mT 888 (by decide +kernel) (by decide +kernel)
theorem q889 : Cond.instanceMethod yX5_light ∈ T0 := mT 889 (by decide +kernel) (by decide +kernel)
theorem q890 : Cond.selects RX5 yX5_light yX5_light ∈ T0 := mT 890 (by decide +kernel) (by decide +kernel)
theorem q891 : Cond.code yX5_light cX5_light 1 (some FieldType.int) ∈ T0 := mT 891 (by decide +kernel) (by decide +kernel)
theorem q892 : Cond.methodLink RX5 155 yX5_lit ∈ T0 := mT 892 (by decide +kernel) (by decide +kernel)
theorem q894 : Cond.instanceMethod yX5_lit ∈ T0 := mT 894 (by decide +kernel) (by decide +kernel)
theorem q895 : Cond.code yX5_lit cX5_lit 1 (some FieldType.int) ∈ T0 := mT 895 (by decide +kernel) (by decide +kernel)
theorem q896 : Cond.methodLink RX5 152 yX5_lightBut ∈ T0 := mT 896 (by decide +kernel) (by decide +kernel)
theorem q898 : Cond.instanceMethod yX5_lightBut ∈ T0 := mT 898 (by decide +kernel) (by decide +kernel)
theorem q899 : Cond.code yX5_lightBut cX5_lightBut 4 (some FieldType.int) ∈ T0 := mT 899 (by decide +kernel) (by decide +kernel)
theorem q900 : Cond.methodLink RL 122 yX5_bestTurn ∈ T0 := mT 900 (by decide +kernel) (by decide +kernel)
theorem q901 : Cond.instanceMethod yX5_bestTurn ∈ T0 := mT 901 (by decide +kernel) (by decide +kernel)
theorem q902 : Cond.selects RX5 yX5_bestTurn yX5_bestTurn ∈ T0 := mT 902 (by decide +kernel) (by decide +kernel)
theorem q903 : Cond.code yX5_bestTurn cX5_bestTurn 10 (some FieldType.int) ∈ T0 := mT 903 (by decide +kernel) (by decide +kernel)
theorem q904 : Cond.methodLink RL 126 yX5_count ∈ T0 := mT 904 (by decide +kernel) (by decide +kernel)
theorem q905 : Cond.instanceMethod yX5_count ∈ T0 := mT 905 (by decide +kernel) (by decide +kernel)
theorem q906 : Cond.selects RX5 yX5_count yX5_count ∈ T0 := mT 906 (by decide +kernel) (by decide +kernel)
theorem q907 : Cond.code yX5_count cX5_count 2 (some FieldType.int) ∈ T0 := mT 907 (by decide +kernel) (by decide +kernel)
theorem q908 : Cond.methodLink RX5 158 yX5_falseOnes ∈ T0 := mT 908 (by decide +kernel) (by decide +kernel)
theorem q910 : Cond.instanceMethod yX5_falseOnes ∈ T0 := mT 910 (by decide +kernel) (by decide +kernel)
theorem q911 : Cond.code yX5_falseOnes cX5_falseOnes 3 (some FieldType.int) ∈ T0 := mT 911 (by decide +kernel) (by decide +kernel)
theorem q912 : Cond.methodLink RX5 161 yX5_allOf ∈ T0 := mT 912 (by decide +kernel) (by decide +kernel)
theorem q914 : Cond.instanceMethod yX5_allOf ∈ T0 := mT 914 (by decide +kernel) (by decide +kernel)
theorem q915 : Cond.code yX5_allOf cX5_allOf 4 (some FieldType.int) ∈ T0 := mT 915 (by decide +kernel) (by decide +kernel)
def nM : List (String × Nat × MethodName × String) := [(RX1, 35, yX4_isPlace, "HoleTickets"), (RX1, 39, yX4_has, "HoleTickets"), (RX1, 43, yX4_only, "HoleTickets"), (RX1, 54, yX4_leastCommonMultiple, "HoleTickets"), (RX2, 69, yX4_has, "HoleTickets"), (RX2, 29, yX4_isPlace, "HoleTickets"), (RX2, 83, yX4_only, "HoleTickets"), (RX3, 68, yX4_only, "HoleTickets"), (RX3, 75, yX4_has, "HoleTickets")]
def nF : List (String × Nat × String × String × String × String) := [(RX4, 45, "HoleTickets$State", "way", "LHoleTickets$Move;", "HoleTickets")]
theorem nM_in : ∀ q ∈ nM, Cond.methodLinkNest q.1 q.2.1 q.2.2.1 q.2.2.2 ∈ lw_tbl := by decide +kernel
theorem nF_in : ∀ q ∈ nF, Cond.fieldLinkNest q.1 q.2.1 q.2.2.1 q.2.2.2.1 q.2.2.2.2.1 q.2.2.2.2.2 ∈ lw_tbl := by decide +kernel
theorem iX0 : ∀ w ∈ u_ws RX0 TX0 3, w ∈ T0 := by decide +kernel
theorem iX1 : ∀ w ∈ u_ws RX1 TX1 2, w ∈ T0 := by decide +kernel
theorem iX2 : ∀ w ∈ u_ws RX2 TX2 10, w ∈ T0 := by decide +kernel
theorem iX3 : ∀ w ∈ u_ws RX3 TX3 9, w ∈ T0 := by decide +kernel
theorem iX4 : ∀ w ∈ u_ws RX4 TX4 5, w ∈ T0 := by decide +kernel
theorem iX5 : ∀ w ∈ u_ws RX5 TX5 14, w ∈ T0 := by decide +kernel
theorem mX4_init : mCt yX4_init cX4_init 1 0 := ⟨q55, q54, q42, rfl, by decide +kernel⟩
theorem mX3_init : mCt yX3_init cX3_init 1 0 := ⟨q63, q62, q43, rfl, by decide +kernel⟩
theorem mX1_init : mCt yX1_init cX1_init 3 0 := ⟨q69, q68, q44, rfl, by decide +kernel⟩
theorem mX0_init : mCt yX0_init cX0_init 2 0 := ⟨q112, q111, q45, rfl, by decide +kernel⟩
theorem mX2_init : mCt yX2_init cX2_init 1 0 := ⟨q131, q130, q46, rfl, by decide +kernel⟩
theorem mX4_exchange : mIn RX4 yX4_exchange cX4_exchange 3 (some .int) 2 := ⟨q184, q182, q183, q42, by decide +kernel⟩
theorem mX4_isPlace : mSt yX4_isPlace cX4_isPlace 1 (some .boolean) 1 := ⟨q187, q186, q42, by decide +kernel⟩
theorem mX0_record : mIn RX0 yX0_record cX0_record 3 none 1 := ⟨q191, q189, q190, q45, by decide +kernel⟩
theorem mX0_row : mIn RX0 yX0_row cX0_row 2 (some (.object "HoleTickets$State")) 1 := ⟨q195, q194, q0, q45, by decide +kernel⟩
theorem mX3_copy : mIn RX3 yX3_copy cX3_copy 2 none 1 := ⟨q199, q197, q198, q43, by decide +kernel⟩
theorem mX1_copy : mIn RX1 yX1_copy cX1_copy 2 none 1 := ⟨q203, q201, q202, q44, by decide +kernel⟩
theorem mJ9_min_7cf53 : mSt yJ9_min_7cf53 cJ9_min_7cf53 2 (some .int) 2 := ⟨q210, q209, q49, by decide +kernel⟩
theorem mX1_swapTargets : mIn RX1 yX1_swapTargets cX1_swapTargets 4 none 2 := ⟨q214, q212, q213, q44, by decide +kernel⟩
theorem mX1_target : mIn RX1 yX1_target cX1_target 2 (some .int) 1 := ⟨q218, q216, q217, q44, by decide +kernel⟩
theorem mX1_send : mIn RX1 yX1_send cX1_send 3 none 2 := ⟨q223, q222, q1, q44, by decide +kernel⟩
theorem mX1_order : mIn RX1 yX1_order cX1_order 5 (some .int) 0 := ⟨q227, q225, q226, q44, by decide +kernel⟩
theorem mX4_has : mSt yX4_has cX4_has 2 (some .boolean) 2 := ⟨q230, q229, q42, by decide +kernel⟩
theorem mX1_round : mIn RX1 yX1_round cX1_round 5 (some .int) 1 := ⟨q234, q232, q233, q44, by decide +kernel⟩
theorem mX4_only : mSt yX4_only cX4_only 1 (some .int) 1 := ⟨q237, q236, q42, by decide +kernel⟩
theorem mJ6_bitCount_0f7a4 : mSt yJ6_bitCount_0f7a4 cJ6_bitCount_0f7a4 1 (some .int) 1 := ⟨q240, q239, q50, by decide +kernel⟩
theorem mX4_leastCommonMultiple : mSt yX4_leastCommonMultiple cX4_leastCommonMultiple 3 (some .int) 2 := ⟨q246, q245, q42, by decide +kernel⟩
theorem mX4_reverse : mIn RX4 yX4_reverse cX4_reverse 2 (some .int) 0 := ⟨q250, q248, q249, q42, by decide +kernel⟩
theorem mX1_turnBack : mIn RX1 yX1_turnBack cX1_turnBack 2 none 0 := ⟨q254, q252, q253, q44, by decide +kernel⟩
theorem mX4_readMove : mIn RX4 yX4_readMove cX4_readMove 1 (some .int) 0 := ⟨q258, q256, q257, q42, by decide +kernel⟩
theorem mX2_read : mIn RX2 yX2_read cX2_read 2 none 0 := ⟨q262, q260, q261, q46, by decide +kernel⟩
theorem mX2_startReading : mIn RX2 yX2_startReading cX2_startReading 2 none 0 := ⟨q266, q265, q2, q46, by decide +kernel⟩
theorem mX2_faultOf : mIn RX2 yX2_faultOf cX2_faultOf 2 (some .int) 1 := ⟨q270, q269, q3, q46, by decide +kernel⟩
theorem mX2_startRound : mIn RX2 yX2_startRound cX2_startRound 2 (some .int) 1 := ⟨q274, q273, q4, q46, by decide +kernel⟩
theorem mX2_startPlace : mIn RX2 yX2_startPlace cX2_startPlace 2 (some .int) 1 := ⟨q278, q277, q5, q46, by decide +kernel⟩
theorem mX2_isDigit : mSt yX2_isDigit cX2_isDigit 1 (some .boolean) 1 := ⟨q281, q280, q46, by decide +kernel⟩
theorem mX2_lengthenPlace : mIn RX2 yX2_lengthenPlace cX2_lengthenPlace 3 (some .int) 1 := ⟨q285, q284, q6, q46, by decide +kernel⟩
theorem mX2_endPlace : mIn RX2 yX2_endPlace cX2_endPlace 3 (some .int) 1 := ⟨q289, q288, q7, q46, by decide +kernel⟩
theorem mX2_send : mIn RX2 yX2_send cX2_send 3 none 2 := ⟨q294, q293, q8, q46, by decide +kernel⟩
theorem mX2_faultOfEnd : mIn RX2 yX2_faultOfEnd cX2_faultOfEnd 1 (some .int) 0 := ⟨q300, q299, q9, q46, by decide +kernel⟩
theorem mX2_faultKind : mIn RX2 yX2_faultKind cX2_faultKind 1 (some .int) 0 := ⟨q304, q302, q303, q46, by decide +kernel⟩
theorem mX2_faultIndex : mIn RX2 yX2_faultIndex cX2_faultIndex 1 (some .int) 0 := ⟨q308, q306, q307, q46, by decide +kernel⟩
theorem mX1_take : mIn RX1 yX1_take cX1_take 3 none 1 := ⟨q312, q310, q311, q44, by decide +kernel⟩
theorem mX2_target : mIn RX2 yX2_target cX2_target 2 (some .int) 1 := ⟨q316, q314, q315, q46, by decide +kernel⟩
theorem mX4_sell : mIn RX4 yX4_sell cX4_sell 2 (some .int) 1 := ⟨q320, q318, q319, q42, by decide +kernel⟩
theorem mX3_sold : mIn RX3 yX3_sold cX3_sold 1 (some .int) 0 := ⟨q325, q323, q324, q43, by decide +kernel⟩
theorem mX3_add : mIn RX3 yX3_add cX3_add 3 (some .int) 1 := ⟨q329, q327, q328, q43, by decide +kernel⟩
theorem mX4_punch : mIn RX4 yX4_punch cX4_punch 3 (some .int) 2 := ⟨q334, q332, q333, q42, by decide +kernel⟩
theorem mX3_isTicket : mIn RX3 yX3_isTicket cX3_isTicket 2 (some .boolean) 1 := ⟨q338, q336, q337, q43, by decide +kernel⟩
theorem mX3_holes : mIn RX3 yX3_holes cX3_holes 2 (some .int) 1 := ⟨q342, q340, q341, q43, by decide +kernel⟩
theorem mX3_due : mIn RX3 yX3_due cX3_due 2 (some .int) 1 := ⟨q347, q345, q346, q43, by decide +kernel⟩
theorem mX3_punchByRight : mIn RX3 yX3_punchByRight cX3_punchByRight 3 none 2 := ⟨q352, q350, q351, q43, by decide +kernel⟩
theorem mX4_forge : mIn RX4 yX4_forge cX4_forge 4 (some .int) 3 := ⟨q358, q356, q357, q42, by decide +kernel⟩
theorem mX3_changeByFraud : mIn RX3 yX3_changeByFraud cX3_changeByFraud 3 none 2 := ⟨q362, q360, q361, q43, by decide +kernel⟩
theorem mX3_isFalse : mIn RX3 yX3_isFalse cX3_isFalse 2 (some .boolean) 1 := ⟨q366, q364, q365, q43, by decide +kernel⟩
theorem mX4_asNumber : mSt yX4_asNumber cX4_asNumber 1 (some .int) 1 := ⟨q371, q370, q42, by decide +kernel⟩
theorem mX4_mend : mIn RX4 yX4_mend cX4_mend 3 (some .int) 1 := ⟨q375, q373, q374, q42, by decide +kernel⟩
theorem mX3_makeRight : mIn RX3 yX3_makeRight cX3_makeRight 2 none 1 := ⟨q379, q377, q378, q43, by decide +kernel⟩
theorem mX4_turn : mIn RX4 yX4_turn cX4_turn 3 (some .int) 2 := ⟨q383, q381, q382, q42, by decide +kernel⟩
theorem mX4_isPower : mSt yX4_isPower cX4_isPower 1 (some .boolean) 1 := ⟨q386, q385, q42, by decide +kernel⟩
theorem mX1_leavesAll : mIn RX1 yX1_leavesAll cX1_leavesAll 3 (some .boolean) 1 := ⟨q390, q388, q389, q44, by decide +kernel⟩
theorem mX3_turnTicket : mIn RX3 yX3_turnTicket cX3_turnTicket 3 none 2 := ⟨q395, q393, q394, q43, by decide +kernel⟩
theorem mX1_movedBy : mIn RX1 yX1_movedBy cX1_movedBy 5 (some .int) 2 := ⟨q399, q397, q398, q44, by decide +kernel⟩
theorem mX1_targetBehind : mIn RX1 yX1_targetBehind cX1_targetBehind 7 (some .int) 2 := ⟨q403, q401, q402, q44, by decide +kernel⟩
theorem mJ9_floorMod_7cf53 : mSt yJ9_floorMod_7cf53 cJ9_floorMod_7cf53 3 (some .int) 2 := ⟨q406, q405, q49, by decide +kernel⟩
theorem mX4_stack : mIn RX4 yX4_stack cX4_stack 3 (some .int) 2 := ⟨q410, q408, q409, q42, by decide +kernel⟩
theorem mX3_stacked : mIn RX3 yX3_stacked cX3_stacked 1 (some .int) 0 := ⟨q414, q412, q413, q43, by decide +kernel⟩
theorem mX3_changeStack : mIn RX3 yX3_changeStack cX3_changeStack 2 none 1 := ⟨q418, q416, q417, q43, by decide +kernel⟩
theorem mX4_turnStack : mIn RX4 yX4_turnStack cX4_turnStack 2 (some .int) 1 := ⟨q422, q420, q421, q42, by decide +kernel⟩
theorem mX3_turnStacked : mIn RX3 yX3_turnStacked cX3_turnStacked 3 none 1 := ⟨q426, q424, q425, q43, by decide +kernel⟩
theorem mX4_type : mIn RX4 yX4_type cX4_type 2 (some .int) 1 := ⟨q432, q430, q431, q42, by decide +kernel⟩
theorem mX2_length : mIn RX2 yX2_length cX2_length 1 (some .int) 0 := ⟨q436, q434, q435, q46, by decide +kernel⟩
theorem mX2_append : mIn RX2 yX2_append cX2_append 2 none 1 := ⟨q440, q438, q439, q46, by decide +kernel⟩
theorem mX4_clearText : mIn RX4 yX4_clearText cX4_clearText 2 (some .int) 0 := ⟨q444, q442, q443, q42, by decide +kernel⟩
theorem mX2_empty : mIn RX2 yX2_empty cX2_empty 1 none 0 := ⟨q448, q446, q447, q46, by decide +kernel⟩
theorem mX4_fault : mIn RX4 yX4_fault cX4_fault 2 (some .int) 1 := ⟨q452, q450, q451, q42, by decide +kernel⟩
theorem mX4_undo : mIn RX4 yX4_undo cX4_undo 1 (some .int) 0 := ⟨q456, q454, q455, q42, by decide +kernel⟩
theorem mX0_size : mIn RX0 yX0_size cX0_size 1 (some .int) 0 := ⟨q460, q458, q459, q45, by decide +kernel⟩
theorem mX0_takeLatest : mIn RX0 yX0_takeLatest cX0_takeLatest 4 none 1 := ⟨q464, q462, q463, q45, by decide +kernel⟩
theorem mX4_keep : mIn RX4 yX4_keep cX4_keep 1 (some .int) 0 := ⟨q468, q466, q467, q42, by decide +kernel⟩
theorem mX4_restore : mIn RX4 yX4_restore cX4_restore 1 (some .int) 0 := ⟨q473, q471, q472, q42, by decide +kernel⟩
theorem mX4_place : mIn RX4 yX4_place cX4_place 3 (some .int) 2 := ⟨q477, q475, q476, q42, by decide +kernel⟩
theorem mX1_source : mIn RX1 yX1_source cX1_source 2 (some .int) 1 := ⟨q482, q480, q481, q44, by decide +kernel⟩
theorem mX4_lowest : mSt yX4_lowest cX4_lowest 2 (some .int) 1 := ⟨q486, q485, q42, by decide +kernel⟩
theorem mX3_ticketsWithHole : mIn RX3 yX3_ticketsWithHole cX3_ticketsWithHole 4 (some .int) 1 := ⟨q490, q488, q489, q43, by decide +kernel⟩
theorem mX4_move : mIn RX4 yX4_move cX4_move 2 (some .int) 1 := ⟨q494, q492, q493, q42, by decide +kernel⟩
theorem mX1_rounds : mIn RX1 yX1_rounds cX1_rounds 4 (some .int) 0 := ⟨q498, q496, q497, q44, by decide +kernel⟩
theorem mX1_fixedPlaces : mIn RX1 yX1_fixedPlaces cX1_fixedPlaces 3 (some .int) 0 := ⟨q502, q500, q501, q44, by decide +kernel⟩
theorem mX1_longestRound : mIn RX1 yX1_longestRound cX1_longestRound 3 (some .int) 0 := ⟨q506, q504, q505, q44, by decide +kernel⟩
theorem mJ9_max_7cf53 : mSt yJ9_max_7cf53 cJ9_max_7cf53 2 (some .int) 2 := ⟨q509, q508, q49, by decide +kernel⟩
theorem mX1_isEven : mIn RX1 yX1_isEven cX1_isEven 1 (some .boolean) 0 := ⟨q513, q511, q512, q44, by decide +kernel⟩
theorem mX4_power : mIn RX4 yX4_power cX4_power 3 (some .int) 2 := ⟨q518, q516, q517, q42, by decide +kernel⟩
theorem mX4_ticket : mIn RX4 yX4_ticket cX4_ticket 5 (some .int) 2 := ⟨q523, q521, q522, q42, by decide +kernel⟩
theorem mX1_movesUntilSame : mIn RX1 yX1_movesUntilSame cX1_movesUntilSame 2 (some .int) 1 := ⟨q527, q525, q526, q44, by decide +kernel⟩
theorem mX1_moved : mIn RX1 yX1_moved cX1_moved 4 (some .int) 1 := ⟨q531, q529, q530, q44, by decide +kernel⟩
theorem mX1_movesUntilAlike : mIn RX1 yX1_movesUntilAlike cX1_movesUntilAlike 6 (some .int) 2 := ⟨q535, q533, q534, q44, by decide +kernel⟩
theorem mX3_turnedBy : mIn RX3 yX3_turnedBy cX3_turnedBy 2 (some .int) 1 := ⟨q539, q537, q538, q43, by decide +kernel⟩
theorem mX4_alikeIn : mIn RX4 yX4_alikeIn cX4_alikeIn 3 (some .int) 2 := ⟨q543, q541, q542, q42, by decide +kernel⟩
theorem mX4_meetsIn : mIn RX4 yX4_meetsIn cX4_meetsIn 3 (some .int) 2 := ⟨q548, q546, q547, q42, by decide +kernel⟩
theorem mX1_movesUntilMeeting : mIn RX1 yX1_movesUntilMeeting cX1_movesUntilMeeting 5 (some .int) 2 := ⟨q552, q550, q551, q44, by decide +kernel⟩
theorem mX4_reason : mIn RX4 yX4_reason cX4_reason 5 (some .int) 2 := ⟨q556, q554, q555, q42, by decide +kernel⟩
theorem mX1_hasLikeNumbersInRounds : mIn RX1 yX1_hasLikeNumbersInRounds cX1_hasLikeNumbersInRounds 5 (some .boolean) 2 := ⟨q560, q558, q559, q44, by decide +kernel⟩
theorem mX4_kin : mIn RX4 yX4_kin cX4_kin 2 (some .int) 1 := ⟨q564, q562, q563, q42, by decide +kernel⟩
theorem mX3_kinOf : mIn RX3 yX3_kinOf cX3_kinOf 6 (some .int) 1 := ⟨q568, q566, q567, q43, by decide +kernel⟩
theorem mX3_ticketsWithHoles : mIn RX3 yX3_ticketsWithHoles cX3_ticketsWithHoles 4 (some .int) 1 := ⟨q573, q572, q10, q43, by decide +kernel⟩
theorem mX4_light : mIn RX4 yX4_light cX4_light 1 (some .int) 0 := ⟨q578, q576, q577, q42, by decide +kernel⟩
theorem mX3_lightPlaces : mIn RX3 yX3_lightPlaces cX3_lightPlaces 1 (some .int) 0 := ⟨q582, q580, q581, q43, by decide +kernel⟩
theorem mX3_commonHoles : mIn RX3 yX3_commonHoles cX3_commonHoles 4 (some .int) 1 := ⟨q586, q585, q11, q43, by decide +kernel⟩
theorem mX4_bestTurn : mIn RX4 yX4_bestTurn cX4_bestTurn 3 (some .int) 2 := ⟨q591, q589, q590, q42, by decide +kernel⟩
theorem mX3_bestPower : mIn RX3 yX3_bestPower cX3_bestPower 9 (some .int) 1 := ⟨q595, q593, q594, q43, by decide +kernel⟩
theorem mX3_mostLight : mIn RX3 yX3_mostLight cX3_mostLight 3 (some .int) 1 := ⟨q599, q597, q598, q43, by decide +kernel⟩
theorem mX4_count : mIn RX4 yX4_count cX4_count 2 (some .int) 1 := ⟨q604, q602, q603, q42, by decide +kernel⟩
theorem mX3_falseTickets : mIn RX3 yX3_falseTickets cX3_falseTickets 3 (some .int) 0 := ⟨q608, q606, q607, q43, by decide +kernel⟩
theorem mX3_allHoles : mIn RX3 yX3_allHoles cX3_allHoles 3 (some .int) 0 := ⟨q613, q611, q612, q43, by decide +kernel⟩
theorem mX3_allDue : mIn RX3 yX3_allDue cX3_allDue 3 (some .int) 0 := ⟨q617, q615, q616, q43, by decide +kernel⟩
theorem mX3_punched : mIn RX3 yX3_punched cX3_punched 1 (some .int) 0 := ⟨q621, q619, q620, q43, by decide +kernel⟩
theorem mX3_frauds : mIn RX3 yX3_frauds cX3_frauds 1 (some .int) 0 := ⟨q625, q623, q624, q43, by decide +kernel⟩
theorem mX3_turns : mIn RX3 yX3_turns cX3_turns 1 (some .int) 0 := ⟨q629, q627, q628, q43, by decide +kernel⟩
theorem mX5_init : mCt yX5_init cX5_init 2 0 := ⟨q634, q633, q47, rfl, by decide +kernel⟩
theorem mX5_exchange : mIn RX5 yX5_exchange cX5_exchange 4 (some .int) 2 := ⟨q682, q680, q681, q47, by decide +kernel⟩
theorem mX5_isPlace : mSt yX5_isPlace cX5_isPlace 1 (some .boolean) 1 := ⟨q685, q684, q47, by decide +kernel⟩
theorem mX5_in : mSt yX5_in cX5_in 3 (some .boolean) 3 := ⟨q688, q687, q47, by decide +kernel⟩
theorem mX5_records : mIn RX5 yX5_records cX5_records 2 none 0 := ⟨q692, q691, q12, q47, by decide +kernel⟩
theorem mX5_order : mIn RX5 yX5_order cX5_order 5 (some .int) 0 := ⟨q696, q695, q13, q47, by decide +kernel⟩
theorem mX5_longOf : mIn RX5 yX5_longOf cX5_longOf 4 (some .int) 1 := ⟨q700, q699, q14, q47, by decide +kernel⟩
theorem mX5_reverse : mIn RX5 yX5_reverse cX5_reverse 3 (some .int) 0 := ⟨q704, q702, q703, q47, by decide +kernel⟩
theorem mX5_sourceOf : mIn RX5 yX5_sourceOf cX5_sourceOf 4 (some .int) 1 := ⟨q708, q707, q15, q47, by decide +kernel⟩
theorem mX5_takes : mIn RX5 yX5_takes cX5_takes 2 none 0 := ⟨q712, q711, q16, q47, by decide +kernel⟩
theorem mX5_type : mIn RX5 yX5_type cX5_type 2 (some .int) 1 := ⟨q716, q714, q715, q47, by decide +kernel⟩
theorem mX5_clearText : mIn RX5 yX5_clearText cX5_clearText 2 (some .int) 0 := ⟨q720, q718, q719, q47, by decide +kernel⟩
theorem mX5_readMove : mIn RX5 yX5_readMove cX5_readMove 1 (some .int) 0 := ⟨q724, q722, q723, q47, by decide +kernel⟩
theorem mX5_isMove : mIn RX5 yX5_isMove cX5_isMove 2 (some .boolean) 0 := ⟨q728, q727, q17, q47, by decide +kernel⟩
theorem mX5_round : mIn RX5 yX5_round cX5_round 2 none 0 := ⟨q732, q731, q18, q47, by decide +kernel⟩
theorem mX5_isAt : mIn RX5 yX5_isAt cX5_isAt 2 (some .boolean) 1 := ⟨q736, q735, q19, q47, by decide +kernel⟩
theorem mX5_fails : mIn RX5 yX5_fails cX5_fails 1 none 0 := ⟨q740, q739, q20, q47, by decide +kernel⟩
theorem mX5_reads : mIn RX5 yX5_reads cX5_reads 3 none 0 := ⟨q744, q743, q21, q47, by decide +kernel⟩
theorem mX5_isDigit : mIn RX5 yX5_isDigit cX5_isDigit 1 (some .boolean) 0 := ⟨q748, q747, q22, q47, by decide +kernel⟩
theorem mX5_fault : mIn RX5 yX5_fault cX5_fault 2 (some .int) 1 := ⟨q752, q750, q751, q47, by decide +kernel⟩
theorem mX5_sell : mIn RX5 yX5_sell cX5_sell 3 (some .int) 1 := ⟨q756, q754, q755, q47, by decide +kernel⟩
theorem mX5_ones : mSt yX5_ones cX5_ones 3 (some .int) 1 := ⟨q760, q759, q47, by decide +kernel⟩
theorem mX5_punch : mIn RX5 yX5_punch cX5_punch 3 (some .int) 2 := ⟨q764, q762, q763, q47, by decide +kernel⟩
theorem mX5_isTicket : mIn RX5 yX5_isTicket cX5_isTicket 2 (some .boolean) 1 := ⟨q768, q767, q23, q47, by decide +kernel⟩
theorem mX5_forge : mIn RX5 yX5_forge cX5_forge 4 (some .int) 3 := ⟨q772, q770, q771, q47, by decide +kernel⟩
theorem mX5_isFalse : mIn RX5 yX5_isFalse cX5_isFalse 2 (some .boolean) 1 := ⟨q776, q775, q24, q47, by decide +kernel⟩
theorem mX5_mend : mIn RX5 yX5_mend cX5_mend 3 (some .int) 1 := ⟨q780, q778, q779, q47, by decide +kernel⟩
theorem mX5_turn : mIn RX5 yX5_turn cX5_turn 3 (some .int) 2 := ⟨q784, q782, q783, q47, by decide +kernel⟩
theorem mX5_isPower : mSt yX5_isPower cX5_isPower 1 (some .boolean) 1 := ⟨q787, q786, q47, by decide +kernel⟩
theorem mX5_forward : mIn RX5 yX5_forward cX5_forward 4 (some .int) 1 := ⟨q791, q790, q25, q47, by decide +kernel⟩
theorem mX5_turns : mIn RX5 yX5_turns cX5_turns 4 none 2 := ⟨q795, q794, q26, q47, by decide +kernel⟩
theorem mX5_turned : mIn RX5 yX5_turned cX5_turned 5 (some .int) 2 := ⟨q799, q798, q27, q47, by decide +kernel⟩
theorem mX5_moved : mIn RX5 yX5_moved cX5_moved 4 (some .int) 1 := ⟨q803, q802, q28, q47, by decide +kernel⟩
theorem mX5_stack : mIn RX5 yX5_stack cX5_stack 3 (some .int) 2 := ⟨q807, q805, q806, q47, by decide +kernel⟩
theorem mX5_isOn : mIn RX5 yX5_isOn cX5_isOn 2 (some .boolean) 1 := ⟨q811, q810, q29, q47, by decide +kernel⟩
theorem mX5_turnStack : mIn RX5 yX5_turnStack cX5_turnStack 3 (some .int) 1 := ⟨q815, q813, q814, q47, by decide +kernel⟩
theorem mX5_undo : mIn RX5 yX5_undo cX5_undo 2 (some .int) 0 := ⟨q819, q817, q818, q47, by decide +kernel⟩
theorem mX5_keep : mIn RX5 yX5_keep cX5_keep 2 (some .int) 0 := ⟨q823, q821, q822, q47, by decide +kernel⟩
theorem mX5_restore : mIn RX5 yX5_restore cX5_restore 2 (some .int) 0 := ⟨q827, q825, q826, q47, by decide +kernel⟩
theorem mX5_place : mIn RX5 yX5_place cX5_place 3 (some .int) 2 := ⟨q831, q829, q830, q47, by decide +kernel⟩
theorem mX5_lowestOf : mIn RX5 yX5_lowestOf cX5_lowestOf 4 (some .int) 1 := ⟨q835, q834, q30, q47, by decide +kernel⟩
theorem mX5_withHole : mIn RX5 yX5_withHole cX5_withHole 4 (some .int) 1 := ⟨q839, q838, q31, q47, by decide +kernel⟩
theorem mX5_move : mIn RX5 yX5_move cX5_move 2 (some .int) 1 := ⟨q843, q841, q842, q47, by decide +kernel⟩
theorem mX5_rounds : mIn RX5 yX5_rounds cX5_rounds 3 (some .int) 0 := ⟨q847, q846, q32, q47, by decide +kernel⟩
theorem mX5_stays : mIn RX5 yX5_stays cX5_stays 3 (some .int) 0 := ⟨q851, q850, q33, q47, by decide +kernel⟩
theorem mX5_longest : mIn RX5 yX5_longest cX5_longest 3 (some .int) 0 := ⟨q855, q854, q34, q47, by decide +kernel⟩
theorem mX5_power : mIn RX5 yX5_power cX5_power 5 (some .int) 2 := ⟨q859, q857, q858, q47, by decide +kernel⟩
theorem mX5_ticket : mIn RX5 yX5_ticket cX5_ticket 5 (some .int) 2 := ⟨q863, q861, q862, q47, by decide +kernel⟩
theorem mX5_movesTo : mIn RX5 yX5_movesTo cX5_movesTo 7 (some .int) 3 := ⟨q867, q866, q35, q47, by decide +kernel⟩
theorem mX5_alikeIn : mIn RX5 yX5_alikeIn cX5_alikeIn 3 (some .int) 2 := ⟨q871, q869, q870, q47, by decide +kernel⟩
theorem mX5_meetsIn : mIn RX5 yX5_meetsIn cX5_meetsIn 6 (some .int) 2 := ⟨q875, q873, q874, q47, by decide +kernel⟩
theorem mX5_reason : mIn RX5 yX5_reason cX5_reason 7 (some .int) 2 := ⟨q879, q877, q878, q47, by decide +kernel⟩
theorem mX5_roundOf : mIn RX5 yX5_roundOf cX5_roundOf 4 (some .int) 1 := ⟨q883, q882, q36, q47, by decide +kernel⟩
theorem mX5_kin : mIn RX5 yX5_kin cX5_kin 4 (some .int) 1 := ⟨q887, q885, q886, q47, by decide +kernel⟩
theorem mX5_light : mIn RX5 yX5_light cX5_light 1 (some .int) 0 := ⟨q891, q889, q890, q47, by decide +kernel⟩
theorem mX5_lit : mIn RX5 yX5_lit cX5_lit 1 (some .int) 0 := ⟨q895, q894, q37, q47, by decide +kernel⟩
theorem mX5_lightBut : mIn RX5 yX5_lightBut cX5_lightBut 4 (some .int) 1 := ⟨q899, q898, q38, q47, by decide +kernel⟩
theorem mX5_bestTurn : mIn RX5 yX5_bestTurn cX5_bestTurn 10 (some .int) 2 := ⟨q903, q901, q902, q47, by decide +kernel⟩
theorem mX5_count : mIn RX5 yX5_count cX5_count 2 (some .int) 1 := ⟨q907, q905, q906, q47, by decide +kernel⟩
theorem mX5_falseOnes : mIn RX5 yX5_falseOnes cX5_falseOnes 3 (some .int) 0 := ⟨q911, q910, q39, q47, by decide +kernel⟩
theorem mX5_allOf : mIn RX5 yX5_allOf cX5_allOf 4 (some .int) 1 := ⟨q915, q914, q40, q47, by decide +kernel⟩
end
section
theorem dX0_init_0 : decode cX0_init 0 = .ok (.aload_n 0, 1) := by decide +kernel
theorem dX0_init_1 : decode cX0_init 1 = .ok (.invokespecial 3, 3) := by decide +kernel
theorem dX0_init_4 : decode cX0_init 4 = .ok (.aload_n 0, 1) := by decide +kernel
theorem dX0_init_5 : decode cX0_init 5 = .ok (.iconst 4, 1) := by decide +kernel
theorem dX0_init_6 : decode cX0_init 6 = .ok (.anewarray 9, 3) := by decide +kernel
theorem dX0_init_9 : decode cX0_init 9 = .ok (.putfield 11, 3) := by decide +kernel
theorem dX0_init_12 : decode cX0_init 12 = .ok (.iconst 0, 1) := by decide +kernel
theorem dX0_init_13 : decode cX0_init 13 = .ok (.istore_n 1, 1) := by decide +kernel
theorem dX0_init_14 : decode cX0_init 14 = .ok (.iload_n 1, 1) := by decide +kernel
theorem dX0_init_15 : decode cX0_init 15 = .ok (.iconst 4, 1) := by decide +kernel
theorem dX0_init_16 : decode cX0_init 16 = .ok (.if_icmp .ge 22, 3) := by decide +kernel
theorem dX0_init_19 : decode cX0_init 19 = .ok (.aload_n 0, 1) := by decide +kernel
theorem dX0_init_20 : decode cX0_init 20 = .ok (.getfield 11, 3) := by decide +kernel
theorem dX0_init_23 : decode cX0_init 23 = .ok (.iload_n 1, 1) := by decide +kernel
theorem dX0_init_24 : decode cX0_init 24 = .ok (.new 9, 3) := by decide +kernel
theorem dX0_init_27 : decode cX0_init 27 = .ok (.dup, 1) := by decide +kernel
theorem dX0_init_28 : decode cX0_init 28 = .ok (.invokespecial 17, 3) := by decide +kernel
theorem dX0_init_31 : decode cX0_init 31 = .ok (.aastore, 1) := by decide +kernel
theorem dX0_init_32 : decode cX0_init 32 = .ok (.iinc 1 1, 3) := by decide +kernel
theorem dX0_init_35 : decode cX0_init 35 = .ok (.goto (-21), 3) := by decide +kernel
theorem dX0_init_38 : decode cX0_init 38 = .ok (.return_, 1) := by decide +kernel
theorem dX0_size_0 : decode cX0_size 0 = .ok (.aload_n 0, 1) := by decide +kernel
theorem dX0_size_1 : decode cX0_size 1 = .ok (.getfield 18, 3) := by decide +kernel
theorem dX0_size_4 : decode cX0_size 4 = .ok (.ireturn, 1) := by decide +kernel
theorem dX0_record_0 : decode cX0_record 0 = .ok (.aload_n 0, 1) := by decide +kernel
theorem dX0_record_1 : decode cX0_record 1 = .ok (.aload_n 0, 1) := by decide +kernel
theorem dX0_record_2 : decode cX0_record 2 = .ok (.getfield 22, 3) := by decide +kernel
theorem dX0_record_5 : decode cX0_record 5 = .ok (.invokevirtual 25, 3) := by decide +kernel
theorem dX0_record_8 : decode cX0_record 8 = .ok (.astore_n 2, 1) := by decide +kernel
theorem dX0_record_9 : decode cX0_record 9 = .ok (.aload_n 2, 1) := by decide +kernel
theorem dX0_record_10 : decode cX0_record 10 = .ok (.ifnull 46, 3) := by decide +kernel
theorem dX0_record_13 : decode cX0_record 13 = .ok (.aload_n 2, 1) := by decide +kernel
theorem dX0_record_14 : decode cX0_record 14 = .ok (.aload_n 1, 1) := by decide +kernel
theorem dX0_record_15 : decode cX0_record 15 = .ok (.invokevirtual 29, 3) := by decide +kernel
theorem dX0_record_18 : decode cX0_record 18 = .ok (.aload_n 0, 1) := by decide +kernel
theorem dX0_record_19 : decode cX0_record 19 = .ok (.aload_n 0, 1) := by decide +kernel
theorem dX0_record_20 : decode cX0_record 20 = .ok (.getfield 22, 3) := by decide +kernel
theorem dX0_record_23 : decode cX0_record 23 = .ok (.iconst 1, 1) := by decide +kernel
theorem dX0_record_24 : decode cX0_record 24 = .ok (.iadd, 1) := by decide +kernel
theorem dX0_record_25 : decode cX0_record 25 = .ok (.iconst 4, 1) := by decide +kernel
theorem dX0_record_26 : decode cX0_record 26 = .ok (.if_icmp .ge 12, 3) := by decide +kernel
theorem dX0_record_29 : decode cX0_record 29 = .ok (.aload_n 0, 1) := by decide +kernel
theorem dX0_record_30 : decode cX0_record 30 = .ok (.getfield 22, 3) := by decide +kernel
theorem dX0_record_33 : decode cX0_record 33 = .ok (.iconst 1, 1) := by decide +kernel
theorem dX0_record_34 : decode cX0_record 34 = .ok (.iadd, 1) := by decide +kernel
theorem dX0_record_35 : decode cX0_record 35 = .ok (.goto 4, 3) := by decide +kernel
theorem dX0_record_38 : decode cX0_record 38 = .ok (.iconst 0, 1) := by decide +kernel
theorem dX0_record_39 : decode cX0_record 39 = .ok (.putfield 22, 3) := by decide +kernel
theorem dX0_record_42 : decode cX0_record 42 = .ok (.aload_n 0, 1) := by decide +kernel
theorem dX0_record_43 : decode cX0_record 43 = .ok (.aload_n 0, 1) := by decide +kernel
theorem dX0_record_44 : decode cX0_record 44 = .ok (.getfield 18, 3) := by decide +kernel
theorem dX0_record_47 : decode cX0_record 47 = .ok (.iconst 1, 1) := by decide +kernel
theorem dX0_record_48 : decode cX0_record 48 = .ok (.iadd, 1) := by decide +kernel
theorem dX0_record_49 : decode cX0_record 49 = .ok (.iconst 4, 1) := by decide +kernel
theorem dX0_record_50 : decode cX0_record 50 = .ok (.invokestatic 33, 3) := by decide +kernel
theorem dX0_record_53 : decode cX0_record 53 = .ok (.putfield 18, 3) := by decide +kernel
theorem dX0_record_56 : decode cX0_record 56 = .ok (.return_, 1) := by decide +kernel
theorem dX0_takeLatest_0 : decode cX0_takeLatest 0 = .ok (.aload_n 0, 1) := by decide +kernel
theorem dX0_takeLatest_1 : decode cX0_takeLatest 1 = .ok (.getfield 22, 3) := by decide +kernel
theorem dX0_takeLatest_4 : decode cX0_takeLatest 4 = .ok (.ifCond .le 12, 3) := by decide +kernel
theorem dX0_takeLatest_7 : decode cX0_takeLatest 7 = .ok (.aload_n 0, 1) := by decide +kernel
theorem dX0_takeLatest_8 : decode cX0_takeLatest 8 = .ok (.getfield 22, 3) := by decide +kernel
theorem dX0_takeLatest_11 : decode cX0_takeLatest 11 = .ok (.iconst 1, 1) := by decide +kernel
theorem dX0_takeLatest_12 : decode cX0_takeLatest 12 = .ok (.isub, 1) := by decide +kernel
theorem dX0_takeLatest_13 : decode cX0_takeLatest 13 = .ok (.goto 4, 3) := by decide +kernel
theorem dX0_takeLatest_16 : decode cX0_takeLatest 16 = .ok (.iconst 3, 1) := by decide +kernel
theorem dX0_takeLatest_17 : decode cX0_takeLatest 17 = .ok (.istore_n 2, 1) := by decide +kernel
theorem dX0_takeLatest_18 : decode cX0_takeLatest 18 = .ok (.aload_n 0, 1) := by decide +kernel
theorem dX0_takeLatest_19 : decode cX0_takeLatest 19 = .ok (.iload_n 2, 1) := by decide +kernel
theorem dX0_takeLatest_20 : decode cX0_takeLatest 20 = .ok (.invokevirtual 25, 3) := by decide +kernel
theorem dX0_takeLatest_23 : decode cX0_takeLatest 23 = .ok (.astore_n 3, 1) := by decide +kernel
theorem dX0_takeLatest_24 : decode cX0_takeLatest 24 = .ok (.aload_n 3, 1) := by decide +kernel
theorem dX0_takeLatest_25 : decode cX0_takeLatest 25 = .ok (.ifnull 30, 3) := by decide +kernel
theorem dX0_takeLatest_28 : decode cX0_takeLatest 28 = .ok (.aload_n 0, 1) := by decide +kernel
theorem dX0_takeLatest_29 : decode cX0_takeLatest 29 = .ok (.getfield 18, 3) := by decide +kernel
theorem dX0_takeLatest_32 : decode cX0_takeLatest 32 = .ok (.ifCond .le 23, 3) := by decide +kernel
theorem dX0_takeLatest_35 : decode cX0_takeLatest 35 = .ok (.aload_n 1, 1) := by decide +kernel
theorem dX0_takeLatest_36 : decode cX0_takeLatest 36 = .ok (.aload_n 3, 1) := by decide +kernel
theorem dX0_takeLatest_37 : decode cX0_takeLatest 37 = .ok (.invokevirtual 29, 3) := by decide +kernel
theorem dX0_takeLatest_40 : decode cX0_takeLatest 40 = .ok (.aload_n 0, 1) := by decide +kernel
theorem dX0_takeLatest_41 : decode cX0_takeLatest 41 = .ok (.iload_n 2, 1) := by decide +kernel
theorem dX0_takeLatest_42 : decode cX0_takeLatest 42 = .ok (.putfield 22, 3) := by decide +kernel
theorem dX0_takeLatest_45 : decode cX0_takeLatest 45 = .ok (.aload_n 0, 1) := by decide +kernel
theorem dX0_takeLatest_46 : decode cX0_takeLatest 46 = .ok (.dup, 1) := by decide +kernel
theorem dX0_takeLatest_47 : decode cX0_takeLatest 47 = .ok (.getfield 18, 3) := by decide +kernel
theorem dX0_takeLatest_50 : decode cX0_takeLatest 50 = .ok (.iconst 1, 1) := by decide +kernel
theorem dX0_takeLatest_51 : decode cX0_takeLatest 51 = .ok (.isub, 1) := by decide +kernel
theorem dX0_takeLatest_52 : decode cX0_takeLatest 52 = .ok (.putfield 18, 3) := by decide +kernel
theorem dX0_takeLatest_55 : decode cX0_takeLatest 55 = .ok (.return_, 1) := by decide +kernel
theorem dX0_row_0 : decode cX0_row 0 = .ok (.iload_n 1, 1) := by decide +kernel
theorem dX0_row_1 : decode cX0_row 1 = .ok (.ifCond .lt 17, 3) := by decide +kernel
theorem dX0_row_4 : decode cX0_row 4 = .ok (.iload_n 1, 1) := by decide +kernel
theorem dX0_row_5 : decode cX0_row 5 = .ok (.iconst 4, 1) := by decide +kernel
theorem dX0_row_6 : decode cX0_row 6 = .ok (.if_icmp .ge 12, 3) := by decide +kernel
theorem dX0_row_9 : decode cX0_row 9 = .ok (.aload_n 0, 1) := by decide +kernel
theorem dX0_row_10 : decode cX0_row 10 = .ok (.getfield 11, 3) := by decide +kernel
theorem dX0_row_13 : decode cX0_row 13 = .ok (.iload_n 1, 1) := by decide +kernel
theorem dX0_row_14 : decode cX0_row 14 = .ok (.aaload, 1) := by decide +kernel
theorem dX0_row_15 : decode cX0_row 15 = .ok (.goto 4, 3) := by decide +kernel
theorem dX0_row_18 : decode cX0_row 18 = .ok (.aconst_null, 1) := by decide +kernel
theorem dX0_row_19 : decode cX0_row 19 = .ok (.areturn, 1) := by decide +kernel
theorem dX1_init_0 : decode cX1_init 0 = .ok (.aload_n 0, 1) := by decide +kernel
theorem dX1_init_1 : decode cX1_init 1 = .ok (.invokespecial 3, 3) := by decide +kernel
theorem dX1_init_4 : decode cX1_init 4 = .ok (.aload_n 0, 1) := by decide +kernel
theorem dX1_init_5 : decode cX1_init 5 = .ok (.bipush 24, 2) := by decide +kernel
theorem dX1_init_7 : decode cX1_init 7 = .ok (.newarray .int, 2) := by decide +kernel
theorem dX1_init_9 : decode cX1_init 9 = .ok (.putfield 9, 3) := by decide +kernel
theorem dX1_init_12 : decode cX1_init 12 = .ok (.aload_n 0, 1) := by decide +kernel
theorem dX1_init_13 : decode cX1_init 13 = .ok (.bipush 24, 2) := by decide +kernel
theorem dX1_init_15 : decode cX1_init 15 = .ok (.newarray .int, 2) := by decide +kernel
theorem dX1_init_17 : decode cX1_init 17 = .ok (.putfield 15, 3) := by decide +kernel
theorem dX1_init_20 : decode cX1_init 20 = .ok (.iconst 0, 1) := by decide +kernel
theorem dX1_init_21 : decode cX1_init 21 = .ok (.istore_n 1, 1) := by decide +kernel
theorem dX1_init_22 : decode cX1_init 22 = .ok (.iload_n 1, 1) := by decide +kernel
theorem dX1_init_23 : decode cX1_init 23 = .ok (.bipush 24, 2) := by decide +kernel
theorem dX1_init_25 : decode cX1_init 25 = .ok (.if_icmp .ge 39, 3) := by decide +kernel
theorem dX1_init_28 : decode cX1_init 28 = .ok (.iload_n 1, 1) := by decide +kernel
theorem dX1_init_29 : decode cX1_init 29 = .ok (.iconst 1, 1) := by decide +kernel
theorem dX1_init_30 : decode cX1_init 30 = .ok (.iadd, 1) := by decide +kernel
theorem dX1_init_31 : decode cX1_init 31 = .ok (.bipush 24, 2) := by decide +kernel
theorem dX1_init_33 : decode cX1_init 33 = .ok (.if_icmp .ge 9, 3) := by decide +kernel
theorem dX1_init_36 : decode cX1_init 36 = .ok (.iload_n 1, 1) := by decide +kernel
theorem dX1_init_37 : decode cX1_init 37 = .ok (.iconst 1, 1) := by decide +kernel
theorem dX1_init_38 : decode cX1_init 38 = .ok (.iadd, 1) := by decide +kernel
theorem dX1_init_39 : decode cX1_init 39 = .ok (.goto 4, 3) := by decide +kernel
theorem dX1_init_42 : decode cX1_init 42 = .ok (.iconst 0, 1) := by decide +kernel
theorem dX1_init_43 : decode cX1_init 43 = .ok (.istore_n 2, 1) := by decide +kernel
theorem dX1_init_44 : decode cX1_init 44 = .ok (.aload_n 0, 1) := by decide +kernel
theorem dX1_init_45 : decode cX1_init 45 = .ok (.getfield 9, 3) := by decide +kernel
theorem dX1_init_48 : decode cX1_init 48 = .ok (.iload_n 1, 1) := by decide +kernel
theorem dX1_init_49 : decode cX1_init 49 = .ok (.iload_n 2, 1) := by decide +kernel
theorem dX1_init_50 : decode cX1_init 50 = .ok (.iastore, 1) := by decide +kernel
theorem dX1_init_51 : decode cX1_init 51 = .ok (.aload_n 0, 1) := by decide +kernel
theorem dX1_init_52 : decode cX1_init 52 = .ok (.getfield 15, 3) := by decide +kernel
theorem dX1_init_55 : decode cX1_init 55 = .ok (.iload_n 2, 1) := by decide +kernel
theorem dX1_init_56 : decode cX1_init 56 = .ok (.iload_n 1, 1) := by decide +kernel
theorem dX1_init_57 : decode cX1_init 57 = .ok (.iastore, 1) := by decide +kernel
theorem dX1_init_58 : decode cX1_init 58 = .ok (.iinc 1 1, 3) := by decide +kernel
theorem dX1_init_61 : decode cX1_init 61 = .ok (.goto (-39), 3) := by decide +kernel
theorem dX1_init_64 : decode cX1_init 64 = .ok (.return_, 1) := by decide +kernel
theorem dX1_copy_0 : decode cX1_copy 0 = .ok (.aload_n 1, 1) := by decide +kernel
theorem dX1_copy_1 : decode cX1_copy 1 = .ok (.getfield 9, 3) := by decide +kernel
theorem dX1_copy_4 : decode cX1_copy 4 = .ok (.iconst 0, 1) := by decide +kernel
theorem dX1_copy_5 : decode cX1_copy 5 = .ok (.aload_n 0, 1) := by decide +kernel
theorem dX1_copy_6 : decode cX1_copy 6 = .ok (.getfield 9, 3) := by decide +kernel
theorem dX1_copy_9 : decode cX1_copy 9 = .ok (.iconst 0, 1) := by decide +kernel
theorem dX1_copy_10 : decode cX1_copy 10 = .ok (.bipush 24, 2) := by decide +kernel
theorem dX1_copy_12 : decode cX1_copy 12 = .ok (.invokestatic 18, 3) := by decide +kernel
theorem dX1_copy_15 : decode cX1_copy 15 = .ok (.aload_n 1, 1) := by decide +kernel
theorem dX1_copy_16 : decode cX1_copy 16 = .ok (.getfield 15, 3) := by decide +kernel
theorem dX1_copy_19 : decode cX1_copy 19 = .ok (.iconst 0, 1) := by decide +kernel
theorem dX1_copy_20 : decode cX1_copy 20 = .ok (.aload_n 0, 1) := by decide +kernel
theorem dX1_copy_21 : decode cX1_copy 21 = .ok (.getfield 15, 3) := by decide +kernel
theorem dX1_copy_24 : decode cX1_copy 24 = .ok (.iconst 0, 1) := by decide +kernel
theorem dX1_copy_25 : decode cX1_copy 25 = .ok (.bipush 24, 2) := by decide +kernel
theorem dX1_copy_27 : decode cX1_copy 27 = .ok (.invokestatic 18, 3) := by decide +kernel
theorem dX1_copy_30 : decode cX1_copy 30 = .ok (.return_, 1) := by decide +kernel
theorem dX1_take_0 : decode cX1_take 0 = .ok (.iconst 0, 1) := by decide +kernel
theorem dX1_take_1 : decode cX1_take 1 = .ok (.istore_n 2, 1) := by decide +kernel
theorem dX1_take_2 : decode cX1_take 2 = .ok (.iload_n 2, 1) := by decide +kernel
theorem dX1_take_3 : decode cX1_take 3 = .ok (.bipush 24, 2) := by decide +kernel
theorem dX1_take_5 : decode cX1_take 5 = .ok (.if_icmp .ge 19, 3) := by decide +kernel
theorem dX1_take_8 : decode cX1_take 8 = .ok (.aload_n 0, 1) := by decide +kernel
theorem dX1_take_9 : decode cX1_take 9 = .ok (.iload_n 2, 1) := by decide +kernel
theorem dX1_take_10 : decode cX1_take 10 = .ok (.aload_n 1, 1) := by decide +kernel
theorem dX1_take_11 : decode cX1_take 11 = .ok (.iload_n 2, 1) := by decide +kernel
theorem dX1_take_12 : decode cX1_take 12 = .ok (.invokevirtual 24, 3) := by decide +kernel
theorem dX1_take_15 : decode cX1_take 15 = .ok (.invokevirtual 30, 3) := by decide +kernel
theorem dX1_take_18 : decode cX1_take 18 = .ok (.iinc 2 1, 3) := by decide +kernel
theorem dX1_take_21 : decode cX1_take 21 = .ok (.goto (-19), 3) := by decide +kernel
theorem dX1_take_24 : decode cX1_take 24 = .ok (.return_, 1) := by decide +kernel
theorem dX1_swapTargets_0 : decode cX1_swapTargets 0 = .ok (.aload_n 0, 1) := by decide +kernel
theorem dX1_swapTargets_1 : decode cX1_swapTargets 1 = .ok (.iload_n 1, 1) := by decide +kernel
theorem dX1_swapTargets_2 : decode cX1_swapTargets 2 = .ok (.invokevirtual 34, 3) := by decide +kernel
theorem dX1_swapTargets_5 : decode cX1_swapTargets 5 = .ok (.istore_n 3, 1) := by decide +kernel
theorem dX1_swapTargets_6 : decode cX1_swapTargets 6 = .ok (.aload_n 0, 1) := by decide +kernel
theorem dX1_swapTargets_7 : decode cX1_swapTargets 7 = .ok (.iload_n 1, 1) := by decide +kernel
theorem dX1_swapTargets_8 : decode cX1_swapTargets 8 = .ok (.aload_n 0, 1) := by decide +kernel
theorem dX1_swapTargets_9 : decode cX1_swapTargets 9 = .ok (.iload_n 2, 1) := by decide +kernel
theorem dX1_swapTargets_10 : decode cX1_swapTargets 10 = .ok (.invokevirtual 34, 3) := by decide +kernel
theorem dX1_swapTargets_13 : decode cX1_swapTargets 13 = .ok (.invokevirtual 30, 3) := by decide +kernel
theorem dX1_swapTargets_16 : decode cX1_swapTargets 16 = .ok (.aload_n 0, 1) := by decide +kernel
theorem dX1_swapTargets_17 : decode cX1_swapTargets 17 = .ok (.iload_n 2, 1) := by decide +kernel
theorem dX1_swapTargets_18 : decode cX1_swapTargets 18 = .ok (.iload_n 3, 1) := by decide +kernel
theorem dX1_swapTargets_19 : decode cX1_swapTargets 19 = .ok (.invokevirtual 30, 3) := by decide +kernel
theorem dX1_swapTargets_22 : decode cX1_swapTargets 22 = .ok (.return_, 1) := by decide +kernel
theorem dX1_turnBack_0 : decode cX1_turnBack 0 = .ok (.aload_n 0, 1) := by decide +kernel
theorem dX1_turnBack_1 : decode cX1_turnBack 1 = .ok (.getfield 9, 3) := by decide +kernel
theorem dX1_turnBack_4 : decode cX1_turnBack 4 = .ok (.astore_n 1, 1) := by decide +kernel
theorem dX1_turnBack_5 : decode cX1_turnBack 5 = .ok (.aload_n 0, 1) := by decide +kernel
theorem dX1_turnBack_6 : decode cX1_turnBack 6 = .ok (.aload_n 0, 1) := by decide +kernel
theorem dX1_turnBack_7 : decode cX1_turnBack 7 = .ok (.getfield 15, 3) := by decide +kernel
theorem dX1_turnBack_10 : decode cX1_turnBack 10 = .ok (.putfield 9, 3) := by decide +kernel
theorem dX1_turnBack_13 : decode cX1_turnBack 13 = .ok (.aload_n 0, 1) := by decide +kernel
theorem dX1_turnBack_14 : decode cX1_turnBack 14 = .ok (.aload_n 1, 1) := by decide +kernel
theorem dX1_turnBack_15 : decode cX1_turnBack 15 = .ok (.putfield 15, 3) := by decide +kernel
theorem dX1_turnBack_18 : decode cX1_turnBack 18 = .ok (.return_, 1) := by decide +kernel
theorem dX1_send_0 : decode cX1_send 0 = .ok (.iload_n 1, 1) := by decide +kernel
theorem dX1_send_1 : decode cX1_send 1 = .ok (.invokestatic 35, 3) := by decide +kernel
theorem dX1_send_4 : decode cX1_send 4 = .ok (.ifCond .eq 24, 3) := by decide +kernel
theorem dX1_send_7 : decode cX1_send 7 = .ok (.iload_n 2, 1) := by decide +kernel
theorem dX1_send_8 : decode cX1_send 8 = .ok (.invokestatic 35, 3) := by decide +kernel
theorem dX1_send_11 : decode cX1_send 11 = .ok (.ifCond .eq 17, 3) := by decide +kernel
theorem dX1_send_14 : decode cX1_send 14 = .ok (.aload_n 0, 1) := by decide +kernel
theorem dX1_send_15 : decode cX1_send 15 = .ok (.getfield 9, 3) := by decide +kernel
theorem dX1_send_18 : decode cX1_send 18 = .ok (.iload_n 1, 1) := by decide +kernel
theorem dX1_send_19 : decode cX1_send 19 = .ok (.iload_n 2, 1) := by decide +kernel
theorem dX1_send_20 : decode cX1_send 20 = .ok (.iastore, 1) := by decide +kernel
theorem dX1_send_21 : decode cX1_send 21 = .ok (.aload_n 0, 1) := by decide +kernel
theorem dX1_send_22 : decode cX1_send 22 = .ok (.getfield 15, 3) := by decide +kernel
theorem dX1_send_25 : decode cX1_send 25 = .ok (.iload_n 2, 1) := by decide +kernel
theorem dX1_send_26 : decode cX1_send 26 = .ok (.iload_n 1, 1) := by decide +kernel
theorem dX1_send_27 : decode cX1_send 27 = .ok (.iastore, 1) := by decide +kernel
theorem dX1_send_28 : decode cX1_send 28 = .ok (.return_, 1) := by decide +kernel
theorem dX1_target_0 : decode cX1_target 0 = .ok (.iload_n 1, 1) := by decide +kernel
theorem dX1_target_1 : decode cX1_target 1 = .ok (.invokestatic 35, 3) := by decide +kernel
theorem dX1_target_4 : decode cX1_target 4 = .ok (.ifCond .eq 12, 3) := by decide +kernel
theorem dX1_target_7 : decode cX1_target 7 = .ok (.aload_n 0, 1) := by decide +kernel
theorem dX1_target_8 : decode cX1_target 8 = .ok (.getfield 9, 3) := by decide +kernel
theorem dX1_target_11 : decode cX1_target 11 = .ok (.iload_n 1, 1) := by decide +kernel
theorem dX1_target_12 : decode cX1_target 12 = .ok (.iaload, 1) := by decide +kernel
theorem dX1_target_13 : decode cX1_target 13 = .ok (.goto 4, 3) := by decide +kernel
theorem dX1_target_16 : decode cX1_target 16 = .ok (.iconst (-1), 1) := by decide +kernel
theorem dX1_target_17 : decode cX1_target 17 = .ok (.ireturn, 1) := by decide +kernel
theorem dX1_source_0 : decode cX1_source 0 = .ok (.iload_n 1, 1) := by decide +kernel
theorem dX1_source_1 : decode cX1_source 1 = .ok (.invokestatic 35, 3) := by decide +kernel
theorem dX1_source_4 : decode cX1_source 4 = .ok (.ifCond .eq 12, 3) := by decide +kernel
theorem dX1_source_7 : decode cX1_source 7 = .ok (.aload_n 0, 1) := by decide +kernel
theorem dX1_source_8 : decode cX1_source 8 = .ok (.getfield 15, 3) := by decide +kernel
theorem dX1_source_11 : decode cX1_source 11 = .ok (.iload_n 1, 1) := by decide +kernel
theorem dX1_source_12 : decode cX1_source 12 = .ok (.iaload, 1) := by decide +kernel
theorem dX1_source_13 : decode cX1_source 13 = .ok (.goto 4, 3) := by decide +kernel
theorem dX1_source_16 : decode cX1_source 16 = .ok (.iconst (-1), 1) := by decide +kernel
theorem dX1_source_17 : decode cX1_source 17 = .ok (.ireturn, 1) := by decide +kernel
theorem dX1_round_0 : decode cX1_round 0 = .ok (.iconst 0, 1) := by decide +kernel
theorem dX1_round_1 : decode cX1_round 1 = .ok (.istore_n 2, 1) := by decide +kernel
theorem dX1_round_2 : decode cX1_round 2 = .ok (.iload_n 1, 1) := by decide +kernel
theorem dX1_round_3 : decode cX1_round 3 = .ok (.istore_n 3, 1) := by decide +kernel
theorem dX1_round_4 : decode cX1_round 4 = .ok (.iconst 0, 1) := by decide +kernel
theorem dX1_round_5 : decode cX1_round 5 = .ok (.istore 4, 2) := by decide +kernel
theorem dX1_round_7 : decode cX1_round 7 = .ok (.iload 4, 2) := by decide +kernel
theorem dX1_round_9 : decode cX1_round 9 = .ok (.bipush 24, 2) := by decide +kernel
theorem dX1_round_11 : decode cX1_round 11 = .ok (.if_icmp .ge 38, 3) := by decide +kernel
theorem dX1_round_14 : decode cX1_round 14 = .ok (.iload_n 3, 1) := by decide +kernel
theorem dX1_round_15 : decode cX1_round 15 = .ok (.invokestatic 35, 3) := by decide +kernel
theorem dX1_round_18 : decode cX1_round 18 = .ok (.ifCond .eq 31, 3) := by decide +kernel
theorem dX1_round_21 : decode cX1_round 21 = .ok (.iload_n 2, 1) := by decide +kernel
theorem dX1_round_22 : decode cX1_round 22 = .ok (.iload_n 3, 1) := by decide +kernel
theorem dX1_round_23 : decode cX1_round 23 = .ok (.invokestatic 39, 3) := by decide +kernel
theorem dX1_round_26 : decode cX1_round 26 = .ok (.ifCond .ne 23, 3) := by decide +kernel
theorem dX1_round_29 : decode cX1_round 29 = .ok (.iload_n 2, 1) := by decide +kernel
theorem dX1_round_30 : decode cX1_round 30 = .ok (.iload_n 3, 1) := by decide +kernel
theorem dX1_round_31 : decode cX1_round 31 = .ok (.invokestatic 43, 3) := by decide +kernel
theorem dX1_round_34 : decode cX1_round 34 = .ok (.ior, 1) := by decide +kernel
theorem dX1_round_35 : decode cX1_round 35 = .ok (.istore_n 2, 1) := by decide +kernel
theorem dX1_round_36 : decode cX1_round 36 = .ok (.aload_n 0, 1) := by decide +kernel
theorem dX1_round_37 : decode cX1_round 37 = .ok (.getfield 9, 3) := by decide +kernel
theorem dX1_round_40 : decode cX1_round 40 = .ok (.iload_n 3, 1) := by decide +kernel
theorem dX1_round_41 : decode cX1_round 41 = .ok (.iaload, 1) := by decide +kernel
theorem dX1_round_42 : decode cX1_round 42 = .ok (.istore_n 3, 1) := by decide +kernel
theorem dX1_round_43 : decode cX1_round 43 = .ok (.iinc 4 1, 3) := by decide +kernel
theorem dX1_round_46 : decode cX1_round 46 = .ok (.goto (-39), 3) := by decide +kernel
theorem dX1_round_49 : decode cX1_round 49 = .ok (.iload_n 2, 1) := by decide +kernel
theorem dX1_round_50 : decode cX1_round 50 = .ok (.ireturn, 1) := by decide +kernel
theorem dX1_order_0 : decode cX1_order 0 = .ok (.iconst 1, 1) := by decide +kernel
theorem dX1_order_1 : decode cX1_order 1 = .ok (.istore_n 1, 1) := by decide +kernel
theorem dX1_order_2 : decode cX1_order 2 = .ok (.iconst 0, 1) := by decide +kernel
theorem dX1_order_3 : decode cX1_order 3 = .ok (.istore_n 2, 1) := by decide +kernel
theorem dX1_order_4 : decode cX1_order 4 = .ok (.iconst 0, 1) := by decide +kernel
theorem dX1_order_5 : decode cX1_order 5 = .ok (.istore_n 3, 1) := by decide +kernel
theorem dX1_order_6 : decode cX1_order 6 = .ok (.iload_n 3, 1) := by decide +kernel
theorem dX1_order_7 : decode cX1_order 7 = .ok (.bipush 24, 2) := by decide +kernel
theorem dX1_order_9 : decode cX1_order 9 = .ok (.if_icmp .ge 39, 3) := by decide +kernel
theorem dX1_order_12 : decode cX1_order 12 = .ok (.iload_n 2, 1) := by decide +kernel
theorem dX1_order_13 : decode cX1_order 13 = .ok (.iload_n 3, 1) := by decide +kernel
theorem dX1_order_14 : decode cX1_order 14 = .ok (.invokestatic 39, 3) := by decide +kernel
theorem dX1_order_17 : decode cX1_order 17 = .ok (.ifCond .ne 25, 3) := by decide +kernel
theorem dX1_order_20 : decode cX1_order 20 = .ok (.aload_n 0, 1) := by decide +kernel
theorem dX1_order_21 : decode cX1_order 21 = .ok (.iload_n 3, 1) := by decide +kernel
theorem dX1_order_22 : decode cX1_order 22 = .ok (.invokevirtual 46, 3) := by decide +kernel
theorem dX1_order_25 : decode cX1_order 25 = .ok (.istore 4, 2) := by decide +kernel
theorem dX1_order_27 : decode cX1_order 27 = .ok (.iload_n 2, 1) := by decide +kernel
theorem dX1_order_28 : decode cX1_order 28 = .ok (.iload 4, 2) := by decide +kernel
theorem dX1_order_30 : decode cX1_order 30 = .ok (.ior, 1) := by decide +kernel
theorem dX1_order_31 : decode cX1_order 31 = .ok (.istore_n 2, 1) := by decide +kernel
theorem dX1_order_32 : decode cX1_order 32 = .ok (.iload_n 1, 1) := by decide +kernel
theorem dX1_order_33 : decode cX1_order 33 = .ok (.iload 4, 2) := by decide +kernel
theorem dX1_order_35 : decode cX1_order 35 = .ok (.invokestatic 49, 3) := by decide +kernel
theorem dX1_order_38 : decode cX1_order 38 = .ok (.invokestatic 54, 3) := by decide +kernel
theorem dX1_order_41 : decode cX1_order 41 = .ok (.istore_n 1, 1) := by decide +kernel
theorem dX1_order_42 : decode cX1_order 42 = .ok (.iinc 3 1, 3) := by decide +kernel
theorem dX1_order_45 : decode cX1_order 45 = .ok (.goto (-39), 3) := by decide +kernel
theorem dX1_order_48 : decode cX1_order 48 = .ok (.iload_n 1, 1) := by decide +kernel
theorem dX1_order_49 : decode cX1_order 49 = .ok (.ireturn, 1) := by decide +kernel
theorem dX1_rounds_0 : decode cX1_rounds 0 = .ok (.iconst 0, 1) := by decide +kernel
theorem dX1_rounds_1 : decode cX1_rounds 1 = .ok (.istore_n 1, 1) := by decide +kernel
theorem dX1_rounds_2 : decode cX1_rounds 2 = .ok (.iconst 0, 1) := by decide +kernel
theorem dX1_rounds_3 : decode cX1_rounds 3 = .ok (.istore_n 2, 1) := by decide +kernel
theorem dX1_rounds_4 : decode cX1_rounds 4 = .ok (.iconst 0, 1) := by decide +kernel
theorem dX1_rounds_5 : decode cX1_rounds 5 = .ok (.istore_n 3, 1) := by decide +kernel
theorem dX1_rounds_6 : decode cX1_rounds 6 = .ok (.iload_n 3, 1) := by decide +kernel
theorem dX1_rounds_7 : decode cX1_rounds 7 = .ok (.bipush 24, 2) := by decide +kernel
theorem dX1_rounds_9 : decode cX1_rounds 9 = .ok (.if_icmp .ge 28, 3) := by decide +kernel
theorem dX1_rounds_12 : decode cX1_rounds 12 = .ok (.iload_n 2, 1) := by decide +kernel
theorem dX1_rounds_13 : decode cX1_rounds 13 = .ok (.iload_n 3, 1) := by decide +kernel
theorem dX1_rounds_14 : decode cX1_rounds 14 = .ok (.invokestatic 39, 3) := by decide +kernel
theorem dX1_rounds_17 : decode cX1_rounds 17 = .ok (.ifCond .ne 14, 3) := by decide +kernel
theorem dX1_rounds_20 : decode cX1_rounds 20 = .ok (.iload_n 2, 1) := by decide +kernel
theorem dX1_rounds_21 : decode cX1_rounds 21 = .ok (.aload_n 0, 1) := by decide +kernel
theorem dX1_rounds_22 : decode cX1_rounds 22 = .ok (.iload_n 3, 1) := by decide +kernel
theorem dX1_rounds_23 : decode cX1_rounds 23 = .ok (.invokevirtual 46, 3) := by decide +kernel
theorem dX1_rounds_26 : decode cX1_rounds 26 = .ok (.ior, 1) := by decide +kernel
theorem dX1_rounds_27 : decode cX1_rounds 27 = .ok (.istore_n 2, 1) := by decide +kernel
theorem dX1_rounds_28 : decode cX1_rounds 28 = .ok (.iinc 1 1, 3) := by decide +kernel
theorem dX1_rounds_31 : decode cX1_rounds 31 = .ok (.iinc 3 1, 3) := by decide +kernel
theorem dX1_rounds_34 : decode cX1_rounds 34 = .ok (.goto (-28), 3) := by decide +kernel
theorem dX1_rounds_37 : decode cX1_rounds 37 = .ok (.iload_n 1, 1) := by decide +kernel
theorem dX1_rounds_38 : decode cX1_rounds 38 = .ok (.ireturn, 1) := by decide +kernel
theorem dX1_fixedPlaces_0 : decode cX1_fixedPlaces 0 = .ok (.iconst 0, 1) := by decide +kernel
theorem dX1_fixedPlaces_1 : decode cX1_fixedPlaces 1 = .ok (.istore_n 1, 1) := by decide +kernel
theorem dX1_fixedPlaces_2 : decode cX1_fixedPlaces 2 = .ok (.iconst 0, 1) := by decide +kernel
theorem dX1_fixedPlaces_3 : decode cX1_fixedPlaces 3 = .ok (.istore_n 2, 1) := by decide +kernel
theorem dX1_fixedPlaces_4 : decode cX1_fixedPlaces 4 = .ok (.iload_n 2, 1) := by decide +kernel
theorem dX1_fixedPlaces_5 : decode cX1_fixedPlaces 5 = .ok (.bipush 24, 2) := by decide +kernel
theorem dX1_fixedPlaces_7 : decode cX1_fixedPlaces 7 = .ok (.if_icmp .ge 22, 3) := by decide +kernel
theorem dX1_fixedPlaces_10 : decode cX1_fixedPlaces 10 = .ok (.aload_n 0, 1) := by decide +kernel
theorem dX1_fixedPlaces_11 : decode cX1_fixedPlaces 11 = .ok (.getfield 9, 3) := by decide +kernel
theorem dX1_fixedPlaces_14 : decode cX1_fixedPlaces 14 = .ok (.iload_n 2, 1) := by decide +kernel
theorem dX1_fixedPlaces_15 : decode cX1_fixedPlaces 15 = .ok (.iaload, 1) := by decide +kernel
theorem dX1_fixedPlaces_16 : decode cX1_fixedPlaces 16 = .ok (.iload_n 2, 1) := by decide +kernel
theorem dX1_fixedPlaces_17 : decode cX1_fixedPlaces 17 = .ok (.if_icmp .ne 6, 3) := by decide +kernel
theorem dX1_fixedPlaces_20 : decode cX1_fixedPlaces 20 = .ok (.iinc 1 1, 3) := by decide +kernel
theorem dX1_fixedPlaces_23 : decode cX1_fixedPlaces 23 = .ok (.iinc 2 1, 3) := by decide +kernel
theorem dX1_fixedPlaces_26 : decode cX1_fixedPlaces 26 = .ok (.goto (-22), 3) := by decide +kernel
theorem dX1_fixedPlaces_29 : decode cX1_fixedPlaces 29 = .ok (.iload_n 1, 1) := by decide +kernel
theorem dX1_fixedPlaces_30 : decode cX1_fixedPlaces 30 = .ok (.ireturn, 1) := by decide +kernel
theorem dX1_longestRound_0 : decode cX1_longestRound 0 = .ok (.iconst 0, 1) := by decide +kernel
theorem dX1_longestRound_1 : decode cX1_longestRound 1 = .ok (.istore_n 1, 1) := by decide +kernel
theorem dX1_longestRound_2 : decode cX1_longestRound 2 = .ok (.iconst 0, 1) := by decide +kernel
theorem dX1_longestRound_3 : decode cX1_longestRound 3 = .ok (.istore_n 2, 1) := by decide +kernel
theorem dX1_longestRound_4 : decode cX1_longestRound 4 = .ok (.iload_n 2, 1) := by decide +kernel
theorem dX1_longestRound_5 : decode cX1_longestRound 5 = .ok (.bipush 24, 2) := by decide +kernel
theorem dX1_longestRound_7 : decode cX1_longestRound 7 = .ok (.if_icmp .ge 22, 3) := by decide +kernel
theorem dX1_longestRound_10 : decode cX1_longestRound 10 = .ok (.iload_n 1, 1) := by decide +kernel
theorem dX1_longestRound_11 : decode cX1_longestRound 11 = .ok (.aload_n 0, 1) := by decide +kernel
theorem dX1_longestRound_12 : decode cX1_longestRound 12 = .ok (.iload_n 2, 1) := by decide +kernel
theorem dX1_longestRound_13 : decode cX1_longestRound 13 = .ok (.invokevirtual 46, 3) := by decide +kernel
theorem dX1_longestRound_16 : decode cX1_longestRound 16 = .ok (.invokestatic 49, 3) := by decide +kernel
theorem dX1_longestRound_19 : decode cX1_longestRound 19 = .ok (.invokestatic 58, 3) := by decide +kernel
theorem dX1_longestRound_22 : decode cX1_longestRound 22 = .ok (.istore_n 1, 1) := by decide +kernel
theorem dX1_longestRound_23 : decode cX1_longestRound 23 = .ok (.iinc 2 1, 3) := by decide +kernel
theorem dX1_longestRound_26 : decode cX1_longestRound 26 = .ok (.goto (-22), 3) := by decide +kernel
theorem dX1_longestRound_29 : decode cX1_longestRound 29 = .ok (.iload_n 1, 1) := by decide +kernel
theorem dX1_longestRound_30 : decode cX1_longestRound 30 = .ok (.ireturn, 1) := by decide +kernel
theorem dX1_isEven_0 : decode cX1_isEven 0 = .ok (.bipush 24, 2) := by decide +kernel
theorem dX1_isEven_2 : decode cX1_isEven 2 = .ok (.aload_n 0, 1) := by decide +kernel
theorem dX1_isEven_3 : decode cX1_isEven 3 = .ok (.invokevirtual 63, 3) := by decide +kernel
theorem dX1_isEven_6 : decode cX1_isEven 6 = .ok (.isub, 1) := by decide +kernel
theorem dX1_isEven_7 : decode cX1_isEven 7 = .ok (.iconst 2, 1) := by decide +kernel
theorem dX1_isEven_8 : decode cX1_isEven 8 = .ok (.irem, 1) := by decide +kernel
theorem dX1_isEven_9 : decode cX1_isEven 9 = .ok (.ifCond .ne 7, 3) := by decide +kernel
theorem dX1_isEven_12 : decode cX1_isEven 12 = .ok (.iconst 1, 1) := by decide +kernel
theorem dX1_isEven_13 : decode cX1_isEven 13 = .ok (.goto 4, 3) := by decide +kernel
theorem dX1_isEven_16 : decode cX1_isEven 16 = .ok (.iconst 0, 1) := by decide +kernel
theorem dX1_isEven_17 : decode cX1_isEven 17 = .ok (.ireturn, 1) := by decide +kernel
theorem dX1_leavesAll_0 : decode cX1_leavesAll 0 = .ok (.aload_n 0, 1) := by decide +kernel
theorem dX1_leavesAll_1 : decode cX1_leavesAll 1 = .ok (.invokevirtual 67, 3) := by decide +kernel
theorem dX1_leavesAll_4 : decode cX1_leavesAll 4 = .ok (.istore_n 2, 1) := by decide +kernel
theorem dX1_leavesAll_5 : decode cX1_leavesAll 5 = .ok (.iload_n 2, 1) := by decide +kernel
theorem dX1_leavesAll_6 : decode cX1_leavesAll 6 = .ok (.ifCond .le 13, 3) := by decide +kernel
theorem dX1_leavesAll_9 : decode cX1_leavesAll 9 = .ok (.iload_n 1, 1) := by decide +kernel
theorem dX1_leavesAll_10 : decode cX1_leavesAll 10 = .ok (.iload_n 2, 1) := by decide +kernel
theorem dX1_leavesAll_11 : decode cX1_leavesAll 11 = .ok (.irem, 1) := by decide +kernel
theorem dX1_leavesAll_12 : decode cX1_leavesAll 12 = .ok (.ifCond .ne 7, 3) := by decide +kernel
theorem dX1_leavesAll_15 : decode cX1_leavesAll 15 = .ok (.iconst 1, 1) := by decide +kernel
theorem dX1_leavesAll_16 : decode cX1_leavesAll 16 = .ok (.goto 4, 3) := by decide +kernel
theorem dX1_leavesAll_19 : decode cX1_leavesAll 19 = .ok (.iconst 0, 1) := by decide +kernel
theorem dX1_leavesAll_20 : decode cX1_leavesAll 20 = .ok (.ireturn, 1) := by decide +kernel
theorem dX1_targetBehind_0 : decode cX1_targetBehind 0 = .ok (.aload_n 0, 1) := by decide +kernel
theorem dX1_targetBehind_1 : decode cX1_targetBehind 1 = .ok (.iload_n 1, 1) := by decide +kernel
theorem dX1_targetBehind_2 : decode cX1_targetBehind 2 = .ok (.invokevirtual 46, 3) := by decide +kernel
theorem dX1_targetBehind_5 : decode cX1_targetBehind 5 = .ok (.invokestatic 49, 3) := by decide +kernel
theorem dX1_targetBehind_8 : decode cX1_targetBehind 8 = .ok (.istore_n 3, 1) := by decide +kernel
theorem dX1_targetBehind_9 : decode cX1_targetBehind 9 = .ok (.iload_n 3, 1) := by decide +kernel
theorem dX1_targetBehind_10 : decode cX1_targetBehind 10 = .ok (.iconst 1, 1) := by decide +kernel
theorem dX1_targetBehind_11 : decode cX1_targetBehind 11 = .ok (.if_icmp .ge 5, 3) := by decide +kernel
theorem dX1_targetBehind_14 : decode cX1_targetBehind 14 = .ok (.iload_n 1, 1) := by decide +kernel
theorem dX1_targetBehind_15 : decode cX1_targetBehind 15 = .ok (.ireturn, 1) := by decide +kernel
theorem dX1_targetBehind_16 : decode cX1_targetBehind 16 = .ok (.iload_n 2, 1) := by decide +kernel
theorem dX1_targetBehind_17 : decode cX1_targetBehind 17 = .ok (.iload_n 3, 1) := by decide +kernel
theorem dX1_targetBehind_18 : decode cX1_targetBehind 18 = .ok (.invokestatic 70, 3) := by decide +kernel
theorem dX1_targetBehind_21 : decode cX1_targetBehind 21 = .ok (.istore 4, 2) := by decide +kernel
theorem dX1_targetBehind_23 : decode cX1_targetBehind 23 = .ok (.iload_n 1, 1) := by decide +kernel
theorem dX1_targetBehind_24 : decode cX1_targetBehind 24 = .ok (.istore 5, 2) := by decide +kernel
theorem dX1_targetBehind_26 : decode cX1_targetBehind 26 = .ok (.iconst 0, 1) := by decide +kernel
theorem dX1_targetBehind_27 : decode cX1_targetBehind 27 = .ok (.istore 6, 2) := by decide +kernel
theorem dX1_targetBehind_29 : decode cX1_targetBehind 29 = .ok (.iload 6, 2) := by decide +kernel
theorem dX1_targetBehind_31 : decode cX1_targetBehind 31 = .ok (.iload 4, 2) := by decide +kernel
theorem dX1_targetBehind_33 : decode cX1_targetBehind 33 = .ok (.if_icmp .ge 26, 3) := by decide +kernel
theorem dX1_targetBehind_36 : decode cX1_targetBehind 36 = .ok (.iload 5, 2) := by decide +kernel
theorem dX1_targetBehind_38 : decode cX1_targetBehind 38 = .ok (.invokestatic 35, 3) := by decide +kernel
theorem dX1_targetBehind_41 : decode cX1_targetBehind 41 = .ok (.ifCond .eq 18, 3) := by decide +kernel
theorem dX1_targetBehind_44 : decode cX1_targetBehind 44 = .ok (.aload_n 0, 1) := by decide +kernel
theorem dX1_targetBehind_45 : decode cX1_targetBehind 45 = .ok (.getfield 9, 3) := by decide +kernel
theorem dX1_targetBehind_48 : decode cX1_targetBehind 48 = .ok (.iload 5, 2) := by decide +kernel
theorem dX1_targetBehind_50 : decode cX1_targetBehind 50 = .ok (.iaload, 1) := by decide +kernel
theorem dX1_targetBehind_51 : decode cX1_targetBehind 51 = .ok (.istore 5, 2) := by decide +kernel
theorem dX1_targetBehind_53 : decode cX1_targetBehind 53 = .ok (.iinc 6 1, 3) := by decide +kernel
theorem dX1_targetBehind_56 : decode cX1_targetBehind 56 = .ok (.goto (-27), 3) := by decide +kernel
theorem dX1_targetBehind_59 : decode cX1_targetBehind 59 = .ok (.iload 5, 2) := by decide +kernel
theorem dX1_targetBehind_61 : decode cX1_targetBehind 61 = .ok (.ireturn, 1) := by decide +kernel
theorem dX1_moved_0 : decode cX1_moved 0 = .ok (.iconst 0, 1) := by decide +kernel
theorem dX1_moved_1 : decode cX1_moved 1 = .ok (.istore_n 2, 1) := by decide +kernel
theorem dX1_moved_2 : decode cX1_moved 2 = .ok (.iconst 0, 1) := by decide +kernel
theorem dX1_moved_3 : decode cX1_moved 3 = .ok (.istore_n 3, 1) := by decide +kernel
theorem dX1_moved_4 : decode cX1_moved 4 = .ok (.iload_n 3, 1) := by decide +kernel
theorem dX1_moved_5 : decode cX1_moved 5 = .ok (.bipush 24, 2) := by decide +kernel
theorem dX1_moved_7 : decode cX1_moved 7 = .ok (.if_icmp .ge 29, 3) := by decide +kernel
theorem dX1_moved_10 : decode cX1_moved 10 = .ok (.iload_n 1, 1) := by decide +kernel
theorem dX1_moved_11 : decode cX1_moved 11 = .ok (.iload_n 3, 1) := by decide +kernel
theorem dX1_moved_12 : decode cX1_moved 12 = .ok (.invokestatic 39, 3) := by decide +kernel
theorem dX1_moved_15 : decode cX1_moved 15 = .ok (.ifCond .eq 15, 3) := by decide +kernel
theorem dX1_moved_18 : decode cX1_moved 18 = .ok (.iload_n 2, 1) := by decide +kernel
theorem dX1_moved_19 : decode cX1_moved 19 = .ok (.aload_n 0, 1) := by decide +kernel
theorem dX1_moved_20 : decode cX1_moved 20 = .ok (.getfield 9, 3) := by decide +kernel
theorem dX1_moved_23 : decode cX1_moved 23 = .ok (.iload_n 3, 1) := by decide +kernel
theorem dX1_moved_24 : decode cX1_moved 24 = .ok (.iaload, 1) := by decide +kernel
theorem dX1_moved_25 : decode cX1_moved 25 = .ok (.invokestatic 43, 3) := by decide +kernel
theorem dX1_moved_28 : decode cX1_moved 28 = .ok (.ior, 1) := by decide +kernel
theorem dX1_moved_29 : decode cX1_moved 29 = .ok (.istore_n 2, 1) := by decide +kernel
theorem dX1_moved_30 : decode cX1_moved 30 = .ok (.iinc 3 1, 3) := by decide +kernel
theorem dX1_moved_33 : decode cX1_moved 33 = .ok (.goto (-29), 3) := by decide +kernel
theorem dX1_moved_36 : decode cX1_moved 36 = .ok (.iload_n 2, 1) := by decide +kernel
theorem dX1_moved_37 : decode cX1_moved 37 = .ok (.ireturn, 1) := by decide +kernel
theorem dX1_movedBy_0 : decode cX1_movedBy 0 = .ok (.iconst 0, 1) := by decide +kernel
theorem dX1_movedBy_1 : decode cX1_movedBy 1 = .ok (.istore_n 3, 1) := by decide +kernel
theorem dX1_movedBy_2 : decode cX1_movedBy 2 = .ok (.iconst 0, 1) := by decide +kernel
theorem dX1_movedBy_3 : decode cX1_movedBy 3 = .ok (.istore 4, 2) := by decide +kernel
theorem dX1_movedBy_5 : decode cX1_movedBy 5 = .ok (.iload 4, 2) := by decide +kernel
theorem dX1_movedBy_7 : decode cX1_movedBy 7 = .ok (.bipush 24, 2) := by decide +kernel
theorem dX1_movedBy_9 : decode cX1_movedBy 9 = .ok (.if_icmp .ge 31, 3) := by decide +kernel
theorem dX1_movedBy_12 : decode cX1_movedBy 12 = .ok (.iload_n 1, 1) := by decide +kernel
theorem dX1_movedBy_13 : decode cX1_movedBy 13 = .ok (.iload 4, 2) := by decide +kernel
theorem dX1_movedBy_15 : decode cX1_movedBy 15 = .ok (.invokestatic 39, 3) := by decide +kernel
theorem dX1_movedBy_18 : decode cX1_movedBy 18 = .ok (.ifCond .eq 16, 3) := by decide +kernel
theorem dX1_movedBy_21 : decode cX1_movedBy 21 = .ok (.iload_n 3, 1) := by decide +kernel
theorem dX1_movedBy_22 : decode cX1_movedBy 22 = .ok (.aload_n 0, 1) := by decide +kernel
theorem dX1_movedBy_23 : decode cX1_movedBy 23 = .ok (.iload 4, 2) := by decide +kernel
theorem dX1_movedBy_25 : decode cX1_movedBy 25 = .ok (.iload_n 2, 1) := by decide +kernel
theorem dX1_movedBy_26 : decode cX1_movedBy 26 = .ok (.invokevirtual 73, 3) := by decide +kernel
theorem dX1_movedBy_29 : decode cX1_movedBy 29 = .ok (.invokestatic 43, 3) := by decide +kernel
theorem dX1_movedBy_32 : decode cX1_movedBy 32 = .ok (.ior, 1) := by decide +kernel
theorem dX1_movedBy_33 : decode cX1_movedBy 33 = .ok (.istore_n 3, 1) := by decide +kernel
theorem dX1_movedBy_34 : decode cX1_movedBy 34 = .ok (.iinc 4 1, 3) := by decide +kernel
theorem dX1_movedBy_37 : decode cX1_movedBy 37 = .ok (.goto (-32), 3) := by decide +kernel
theorem dX1_movedBy_40 : decode cX1_movedBy 40 = .ok (.iload_n 3, 1) := by decide +kernel
theorem dX1_movedBy_41 : decode cX1_movedBy 41 = .ok (.ireturn, 1) := by decide +kernel
theorem dX1_movesUntilSame_0 : decode cX1_movesUntilSame 0 = .ok (.aload_n 0, 1) := by decide +kernel
theorem dX1_movesUntilSame_1 : decode cX1_movesUntilSame 1 = .ok (.aload_n 0, 1) := by decide +kernel
theorem dX1_movesUntilSame_2 : decode cX1_movesUntilSame 2 = .ok (.iload_n 1, 1) := by decide +kernel
theorem dX1_movesUntilSame_3 : decode cX1_movesUntilSame 3 = .ok (.invokevirtual 76, 3) := by decide +kernel
theorem dX1_movesUntilSame_6 : decode cX1_movesUntilSame 6 = .ok (.iload_n 1, 1) := by decide +kernel
theorem dX1_movesUntilSame_7 : decode cX1_movesUntilSame 7 = .ok (.invokevirtual 79, 3) := by decide +kernel
theorem dX1_movesUntilSame_10 : decode cX1_movesUntilSame 10 = .ok (.iconst 1, 1) := by decide +kernel
theorem dX1_movesUntilSame_11 : decode cX1_movesUntilSame 11 = .ok (.iadd, 1) := by decide +kernel
theorem dX1_movesUntilSame_12 : decode cX1_movesUntilSame 12 = .ok (.ireturn, 1) := by decide +kernel
theorem dX1_movesUntilAlike_0 : decode cX1_movesUntilAlike 0 = .ok (.aload_n 0, 1) := by decide +kernel
theorem dX1_movesUntilAlike_1 : decode cX1_movesUntilAlike 1 = .ok (.invokevirtual 67, 3) := by decide +kernel
theorem dX1_movesUntilAlike_4 : decode cX1_movesUntilAlike 4 = .ok (.istore_n 3, 1) := by decide +kernel
theorem dX1_movesUntilAlike_5 : decode cX1_movesUntilAlike 5 = .ok (.iload_n 1, 1) := by decide +kernel
theorem dX1_movesUntilAlike_6 : decode cX1_movesUntilAlike 6 = .ok (.istore 4, 2) := by decide +kernel
theorem dX1_movesUntilAlike_8 : decode cX1_movesUntilAlike 8 = .ok (.iconst 0, 1) := by decide +kernel
theorem dX1_movesUntilAlike_9 : decode cX1_movesUntilAlike 9 = .ok (.istore 5, 2) := by decide +kernel
theorem dX1_movesUntilAlike_11 : decode cX1_movesUntilAlike 11 = .ok (.iload 5, 2) := by decide +kernel
theorem dX1_movesUntilAlike_13 : decode cX1_movesUntilAlike 13 = .ok (.iload_n 3, 1) := by decide +kernel
theorem dX1_movesUntilAlike_14 : decode cX1_movesUntilAlike 14 = .ok (.if_icmp .ge 26, 3) := by decide +kernel
theorem dX1_movesUntilAlike_17 : decode cX1_movesUntilAlike 17 = .ok (.iload 4, 2) := by decide +kernel
theorem dX1_movesUntilAlike_19 : decode cX1_movesUntilAlike 19 = .ok (.iload_n 2, 1) := by decide +kernel
theorem dX1_movesUntilAlike_20 : decode cX1_movesUntilAlike 20 = .ok (.if_icmp .ne 6, 3) := by decide +kernel
theorem dX1_movesUntilAlike_23 : decode cX1_movesUntilAlike 23 = .ok (.iload 5, 2) := by decide +kernel
theorem dX1_movesUntilAlike_25 : decode cX1_movesUntilAlike 25 = .ok (.ireturn, 1) := by decide +kernel
theorem dX1_movesUntilAlike_26 : decode cX1_movesUntilAlike 26 = .ok (.aload_n 0, 1) := by decide +kernel
theorem dX1_movesUntilAlike_27 : decode cX1_movesUntilAlike 27 = .ok (.iload 4, 2) := by decide +kernel
theorem dX1_movesUntilAlike_29 : decode cX1_movesUntilAlike 29 = .ok (.invokevirtual 76, 3) := by decide +kernel
theorem dX1_movesUntilAlike_32 : decode cX1_movesUntilAlike 32 = .ok (.istore 4, 2) := by decide +kernel
theorem dX1_movesUntilAlike_34 : decode cX1_movesUntilAlike 34 = .ok (.iinc 5 1, 3) := by decide +kernel
theorem dX1_movesUntilAlike_37 : decode cX1_movesUntilAlike 37 = .ok (.goto (-26), 3) := by decide +kernel
theorem dX1_movesUntilAlike_40 : decode cX1_movesUntilAlike 40 = .ok (.bipush (-5), 2) := by decide +kernel
theorem dX1_movesUntilAlike_42 : decode cX1_movesUntilAlike 42 = .ok (.ireturn, 1) := by decide +kernel
theorem dX1_movesUntilMeeting_0 : decode cX1_movesUntilMeeting 0 = .ok (.iload_n 1, 1) := by decide +kernel
theorem dX1_movesUntilMeeting_1 : decode cX1_movesUntilMeeting 1 = .ok (.istore_n 3, 1) := by decide +kernel
theorem dX1_movesUntilMeeting_2 : decode cX1_movesUntilMeeting 2 = .ok (.iconst 0, 1) := by decide +kernel
theorem dX1_movesUntilMeeting_3 : decode cX1_movesUntilMeeting 3 = .ok (.istore 4, 2) := by decide +kernel
theorem dX1_movesUntilMeeting_5 : decode cX1_movesUntilMeeting 5 = .ok (.iload 4, 2) := by decide +kernel
theorem dX1_movesUntilMeeting_7 : decode cX1_movesUntilMeeting 7 = .ok (.bipush 24, 2) := by decide +kernel
theorem dX1_movesUntilMeeting_9 : decode cX1_movesUntilMeeting 9 = .ok (.if_icmp .ge 24, 3) := by decide +kernel
theorem dX1_movesUntilMeeting_12 : decode cX1_movesUntilMeeting 12 = .ok (.iload_n 3, 1) := by decide +kernel
theorem dX1_movesUntilMeeting_13 : decode cX1_movesUntilMeeting 13 = .ok (.iload_n 2, 1) := by decide +kernel
theorem dX1_movesUntilMeeting_14 : decode cX1_movesUntilMeeting 14 = .ok (.iand, 1) := by decide +kernel
theorem dX1_movesUntilMeeting_15 : decode cX1_movesUntilMeeting 15 = .ok (.ifCond .eq 6, 3) := by decide +kernel
theorem dX1_movesUntilMeeting_18 : decode cX1_movesUntilMeeting 18 = .ok (.iload 4, 2) := by decide +kernel
theorem dX1_movesUntilMeeting_20 : decode cX1_movesUntilMeeting 20 = .ok (.ireturn, 1) := by decide +kernel
theorem dX1_movesUntilMeeting_21 : decode cX1_movesUntilMeeting 21 = .ok (.aload_n 0, 1) := by decide +kernel
theorem dX1_movesUntilMeeting_22 : decode cX1_movesUntilMeeting 22 = .ok (.iload_n 3, 1) := by decide +kernel
theorem dX1_movesUntilMeeting_23 : decode cX1_movesUntilMeeting 23 = .ok (.invokevirtual 76, 3) := by decide +kernel
theorem dX1_movesUntilMeeting_26 : decode cX1_movesUntilMeeting 26 = .ok (.istore_n 3, 1) := by decide +kernel
theorem dX1_movesUntilMeeting_27 : decode cX1_movesUntilMeeting 27 = .ok (.iinc 4 1, 3) := by decide +kernel
theorem dX1_movesUntilMeeting_30 : decode cX1_movesUntilMeeting 30 = .ok (.goto (-25), 3) := by decide +kernel
theorem dX1_movesUntilMeeting_33 : decode cX1_movesUntilMeeting 33 = .ok (.bipush (-5), 2) := by decide +kernel
theorem dX1_movesUntilMeeting_35 : decode cX1_movesUntilMeeting 35 = .ok (.ireturn, 1) := by decide +kernel
theorem dX1_hasLikeNumbersInRounds_0 : decode cX1_hasLikeNumbersInRounds 0 = .ok (.iconst 0, 1) := by decide +kernel
theorem dX1_hasLikeNumbersInRounds_1 : decode cX1_hasLikeNumbersInRounds 1 = .ok (.istore_n 3, 1) := by decide +kernel
theorem dX1_hasLikeNumbersInRounds_2 : decode cX1_hasLikeNumbersInRounds 2 = .ok (.iload_n 3, 1) := by decide +kernel
theorem dX1_hasLikeNumbersInRounds_3 : decode cX1_hasLikeNumbersInRounds 3 = .ok (.bipush 24, 2) := by decide +kernel
theorem dX1_hasLikeNumbersInRounds_5 : decode cX1_hasLikeNumbersInRounds 5 = .ok (.if_icmp .ge 35, 3) := by decide +kernel
theorem dX1_hasLikeNumbersInRounds_8 : decode cX1_hasLikeNumbersInRounds 8 = .ok (.aload_n 0, 1) := by decide +kernel
theorem dX1_hasLikeNumbersInRounds_9 : decode cX1_hasLikeNumbersInRounds 9 = .ok (.iload_n 3, 1) := by decide +kernel
theorem dX1_hasLikeNumbersInRounds_10 : decode cX1_hasLikeNumbersInRounds 10 = .ok (.invokevirtual 46, 3) := by decide +kernel
theorem dX1_hasLikeNumbersInRounds_13 : decode cX1_hasLikeNumbersInRounds 13 = .ok (.istore 4, 2) := by decide +kernel
theorem dX1_hasLikeNumbersInRounds_15 : decode cX1_hasLikeNumbersInRounds 15 = .ok (.iload_n 1, 1) := by decide +kernel
theorem dX1_hasLikeNumbersInRounds_16 : decode cX1_hasLikeNumbersInRounds 16 = .ok (.iload 4, 2) := by decide +kernel
theorem dX1_hasLikeNumbersInRounds_18 : decode cX1_hasLikeNumbersInRounds 18 = .ok (.iand, 1) := by decide +kernel
theorem dX1_hasLikeNumbersInRounds_19 : decode cX1_hasLikeNumbersInRounds 19 = .ok (.invokestatic 49, 3) := by decide +kernel
theorem dX1_hasLikeNumbersInRounds_22 : decode cX1_hasLikeNumbersInRounds 22 = .ok (.iload_n 2, 1) := by decide +kernel
theorem dX1_hasLikeNumbersInRounds_23 : decode cX1_hasLikeNumbersInRounds 23 = .ok (.iload 4, 2) := by decide +kernel
theorem dX1_hasLikeNumbersInRounds_25 : decode cX1_hasLikeNumbersInRounds 25 = .ok (.iand, 1) := by decide +kernel
theorem dX1_hasLikeNumbersInRounds_26 : decode cX1_hasLikeNumbersInRounds 26 = .ok (.invokestatic 49, 3) := by decide +kernel
theorem dX1_hasLikeNumbersInRounds_29 : decode cX1_hasLikeNumbersInRounds 29 = .ok (.if_icmp .eq 5, 3) := by decide +kernel
theorem dX1_hasLikeNumbersInRounds_32 : decode cX1_hasLikeNumbersInRounds 32 = .ok (.iconst 0, 1) := by decide +kernel
theorem dX1_hasLikeNumbersInRounds_33 : decode cX1_hasLikeNumbersInRounds 33 = .ok (.ireturn, 1) := by decide +kernel
theorem dX1_hasLikeNumbersInRounds_34 : decode cX1_hasLikeNumbersInRounds 34 = .ok (.iinc 3 1, 3) := by decide +kernel
theorem dX1_hasLikeNumbersInRounds_37 : decode cX1_hasLikeNumbersInRounds 37 = .ok (.goto (-35), 3) := by decide +kernel
theorem dX1_hasLikeNumbersInRounds_40 : decode cX1_hasLikeNumbersInRounds 40 = .ok (.iconst 1, 1) := by decide +kernel
theorem dX1_hasLikeNumbersInRounds_41 : decode cX1_hasLikeNumbersInRounds 41 = .ok (.ireturn, 1) := by decide +kernel
theorem dX2_init_0 : decode cX2_init 0 = .ok (.aload_n 0, 1) := by decide +kernel
theorem dX2_init_1 : decode cX2_init 1 = .ok (.invokespecial 3, 3) := by decide +kernel
theorem dX2_init_4 : decode cX2_init 4 = .ok (.aload_n 0, 1) := by decide +kernel
theorem dX2_init_5 : decode cX2_init 5 = .ok (.bipush 80, 2) := by decide +kernel
theorem dX2_init_7 : decode cX2_init 7 = .ok (.newarray .char, 2) := by decide +kernel
theorem dX2_init_9 : decode cX2_init 9 = .ok (.putfield 9, 3) := by decide +kernel
theorem dX2_init_12 : decode cX2_init 12 = .ok (.aload_n 0, 1) := by decide +kernel
theorem dX2_init_13 : decode cX2_init 13 = .ok (.bipush 24, 2) := by decide +kernel
theorem dX2_init_15 : decode cX2_init 15 = .ok (.newarray .int, 2) := by decide +kernel
theorem dX2_init_17 : decode cX2_init 17 = .ok (.putfield 15, 3) := by decide +kernel
theorem dX2_init_20 : decode cX2_init 20 = .ok (.return_, 1) := by decide +kernel
theorem dX2_length_0 : decode cX2_length 0 = .ok (.aload_n 0, 1) := by decide +kernel
theorem dX2_length_1 : decode cX2_length 1 = .ok (.getfield 19, 3) := by decide +kernel
theorem dX2_length_4 : decode cX2_length 4 = .ok (.ireturn, 1) := by decide +kernel
theorem dX2_faultIndex_0 : decode cX2_faultIndex 0 = .ok (.aload_n 0, 1) := by decide +kernel
theorem dX2_faultIndex_1 : decode cX2_faultIndex 1 = .ok (.getfield 23, 3) := by decide +kernel
theorem dX2_faultIndex_4 : decode cX2_faultIndex 4 = .ok (.ireturn, 1) := by decide +kernel
theorem dX2_faultKind_0 : decode cX2_faultKind 0 = .ok (.aload_n 0, 1) := by decide +kernel
theorem dX2_faultKind_1 : decode cX2_faultKind 1 = .ok (.getfield 26, 3) := by decide +kernel
theorem dX2_faultKind_4 : decode cX2_faultKind 4 = .ok (.ireturn, 1) := by decide +kernel
theorem dX2_target_0 : decode cX2_target 0 = .ok (.iload_n 1, 1) := by decide +kernel
theorem dX2_target_1 : decode cX2_target 1 = .ok (.invokestatic 29, 3) := by decide +kernel
theorem dX2_target_4 : decode cX2_target 4 = .ok (.ifCond .eq 12, 3) := by decide +kernel
theorem dX2_target_7 : decode cX2_target 7 = .ok (.aload_n 0, 1) := by decide +kernel
theorem dX2_target_8 : decode cX2_target 8 = .ok (.getfield 15, 3) := by decide +kernel
theorem dX2_target_11 : decode cX2_target 11 = .ok (.iload_n 1, 1) := by decide +kernel
theorem dX2_target_12 : decode cX2_target 12 = .ok (.iaload, 1) := by decide +kernel
theorem dX2_target_13 : decode cX2_target 13 = .ok (.goto 4, 3) := by decide +kernel
theorem dX2_target_16 : decode cX2_target 16 = .ok (.iconst (-1), 1) := by decide +kernel
theorem dX2_target_17 : decode cX2_target 17 = .ok (.ireturn, 1) := by decide +kernel
theorem dX2_append_0 : decode cX2_append 0 = .ok (.aload_n 0, 1) := by decide +kernel
theorem dX2_append_1 : decode cX2_append 1 = .ok (.getfield 19, 3) := by decide +kernel
theorem dX2_append_4 : decode cX2_append 4 = .ok (.ifCond .lt 32, 3) := by decide +kernel
theorem dX2_append_7 : decode cX2_append 7 = .ok (.aload_n 0, 1) := by decide +kernel
theorem dX2_append_8 : decode cX2_append 8 = .ok (.getfield 19, 3) := by decide +kernel
theorem dX2_append_11 : decode cX2_append 11 = .ok (.bipush 80, 2) := by decide +kernel
theorem dX2_append_13 : decode cX2_append 13 = .ok (.if_icmp .ge 23, 3) := by decide +kernel
theorem dX2_append_16 : decode cX2_append 16 = .ok (.aload_n 0, 1) := by decide +kernel
theorem dX2_append_17 : decode cX2_append 17 = .ok (.getfield 9, 3) := by decide +kernel
theorem dX2_append_20 : decode cX2_append 20 = .ok (.aload_n 0, 1) := by decide +kernel
theorem dX2_append_21 : decode cX2_append 21 = .ok (.getfield 19, 3) := by decide +kernel
theorem dX2_append_24 : decode cX2_append 24 = .ok (.iload_n 1, 1) := by decide +kernel
theorem dX2_append_25 : decode cX2_append 25 = .ok (.castore, 1) := by decide +kernel
theorem dX2_append_26 : decode cX2_append 26 = .ok (.aload_n 0, 1) := by decide +kernel
theorem dX2_append_27 : decode cX2_append 27 = .ok (.dup, 1) := by decide +kernel
theorem dX2_append_28 : decode cX2_append 28 = .ok (.getfield 19, 3) := by decide +kernel
theorem dX2_append_31 : decode cX2_append 31 = .ok (.iconst 1, 1) := by decide +kernel
theorem dX2_append_32 : decode cX2_append 32 = .ok (.iadd, 1) := by decide +kernel
theorem dX2_append_33 : decode cX2_append 33 = .ok (.putfield 19, 3) := by decide +kernel
theorem dX2_append_36 : decode cX2_append 36 = .ok (.return_, 1) := by decide +kernel
theorem dX2_empty_0 : decode cX2_empty 0 = .ok (.aload_n 0, 1) := by decide +kernel
theorem dX2_empty_1 : decode cX2_empty 1 = .ok (.iconst 0, 1) := by decide +kernel
theorem dX2_empty_2 : decode cX2_empty 2 = .ok (.putfield 19, 3) := by decide +kernel
theorem dX2_empty_5 : decode cX2_empty 5 = .ok (.return_, 1) := by decide +kernel
theorem dX2_read_0 : decode cX2_read 0 = .ok (.aload_n 0, 1) := by decide +kernel
theorem dX2_read_1 : decode cX2_read 1 = .ok (.invokevirtual 33, 3) := by decide +kernel
theorem dX2_read_4 : decode cX2_read 4 = .ok (.iconst 0, 1) := by decide +kernel
theorem dX2_read_5 : decode cX2_read 5 = .ok (.istore_n 1, 1) := by decide +kernel
theorem dX2_read_6 : decode cX2_read 6 = .ok (.iload_n 1, 1) := by decide +kernel
theorem dX2_read_7 : decode cX2_read 7 = .ok (.bipush 80, 2) := by decide +kernel
theorem dX2_read_9 : decode cX2_read 9 = .ok (.if_icmp .ge 43, 3) := by decide +kernel
theorem dX2_read_12 : decode cX2_read 12 = .ok (.iload_n 1, 1) := by decide +kernel
theorem dX2_read_13 : decode cX2_read 13 = .ok (.aload_n 0, 1) := by decide +kernel
theorem dX2_read_14 : decode cX2_read 14 = .ok (.getfield 19, 3) := by decide +kernel
theorem dX2_read_17 : decode cX2_read 17 = .ok (.if_icmp .ge 35, 3) := by decide +kernel
theorem dX2_read_20 : decode cX2_read 20 = .ok (.aload_n 0, 1) := by decide +kernel
theorem dX2_read_21 : decode cX2_read 21 = .ok (.getfield 26, 3) := by decide +kernel
theorem dX2_read_24 : decode cX2_read 24 = .ok (.ifCond .ne 28, 3) := by decide +kernel
theorem dX2_read_27 : decode cX2_read 27 = .ok (.aload_n 0, 1) := by decide +kernel
theorem dX2_read_28 : decode cX2_read 28 = .ok (.aload_n 0, 1) := by decide +kernel
theorem dX2_read_29 : decode cX2_read 29 = .ok (.aload_n 0, 1) := by decide +kernel
theorem dX2_read_30 : decode cX2_read 30 = .ok (.getfield 9, 3) := by decide +kernel
theorem dX2_read_33 : decode cX2_read 33 = .ok (.iload_n 1, 1) := by decide +kernel
theorem dX2_read_34 : decode cX2_read 34 = .ok (.caload, 1) := by decide +kernel
theorem dX2_read_35 : decode cX2_read 35 = .ok (.invokevirtual 36, 3) := by decide +kernel
theorem dX2_read_38 : decode cX2_read 38 = .ok (.putfield 26, 3) := by decide +kernel
theorem dX2_read_41 : decode cX2_read 41 = .ok (.aload_n 0, 1) := by decide +kernel
theorem dX2_read_42 : decode cX2_read 42 = .ok (.iload_n 1, 1) := by decide +kernel
theorem dX2_read_43 : decode cX2_read 43 = .ok (.putfield 23, 3) := by decide +kernel
theorem dX2_read_46 : decode cX2_read 46 = .ok (.iinc 1 1, 3) := by decide +kernel
theorem dX2_read_49 : decode cX2_read 49 = .ok (.goto (-43), 3) := by decide +kernel
theorem dX2_read_52 : decode cX2_read 52 = .ok (.aload_n 0, 1) := by decide +kernel
theorem dX2_read_53 : decode cX2_read 53 = .ok (.getfield 26, 3) := by decide +kernel
theorem dX2_read_56 : decode cX2_read 56 = .ok (.ifCond .ne 19, 3) := by decide +kernel
theorem dX2_read_59 : decode cX2_read 59 = .ok (.aload_n 0, 1) := by decide +kernel
theorem dX2_read_60 : decode cX2_read 60 = .ok (.aload_n 0, 1) := by decide +kernel
theorem dX2_read_61 : decode cX2_read 61 = .ok (.invokevirtual 40, 3) := by decide +kernel
theorem dX2_read_64 : decode cX2_read 64 = .ok (.putfield 26, 3) := by decide +kernel
theorem dX2_read_67 : decode cX2_read 67 = .ok (.aload_n 0, 1) := by decide +kernel
theorem dX2_read_68 : decode cX2_read 68 = .ok (.aload_n 0, 1) := by decide +kernel
theorem dX2_read_69 : decode cX2_read 69 = .ok (.getfield 19, 3) := by decide +kernel
theorem dX2_read_72 : decode cX2_read 72 = .ok (.putfield 23, 3) := by decide +kernel
theorem dX2_read_75 : decode cX2_read 75 = .ok (.return_, 1) := by decide +kernel
theorem dX2_startReading_0 : decode cX2_startReading 0 = .ok (.iconst 0, 1) := by decide +kernel
theorem dX2_startReading_1 : decode cX2_startReading 1 = .ok (.istore_n 1, 1) := by decide +kernel
theorem dX2_startReading_2 : decode cX2_startReading 2 = .ok (.iload_n 1, 1) := by decide +kernel
theorem dX2_startReading_3 : decode cX2_startReading 3 = .ok (.bipush 24, 2) := by decide +kernel
theorem dX2_startReading_5 : decode cX2_startReading 5 = .ok (.if_icmp .ge 16, 3) := by decide +kernel
theorem dX2_startReading_8 : decode cX2_startReading 8 = .ok (.aload_n 0, 1) := by decide +kernel
theorem dX2_startReading_9 : decode cX2_startReading 9 = .ok (.getfield 15, 3) := by decide +kernel
theorem dX2_startReading_12 : decode cX2_startReading 12 = .ok (.iload_n 1, 1) := by decide +kernel
theorem dX2_startReading_13 : decode cX2_startReading 13 = .ok (.iload_n 1, 1) := by decide +kernel
theorem dX2_startReading_14 : decode cX2_startReading 14 = .ok (.iastore, 1) := by decide +kernel
theorem dX2_startReading_15 : decode cX2_startReading 15 = .ok (.iinc 1 1, 3) := by decide +kernel
theorem dX2_startReading_18 : decode cX2_startReading 18 = .ok (.goto (-16), 3) := by decide +kernel
theorem dX2_startReading_21 : decode cX2_startReading 21 = .ok (.aload_n 0, 1) := by decide +kernel
theorem dX2_startReading_22 : decode cX2_startReading 22 = .ok (.iconst 0, 1) := by decide +kernel
theorem dX2_startReading_23 : decode cX2_startReading 23 = .ok (.putfield 26, 3) := by decide +kernel
theorem dX2_startReading_26 : decode cX2_startReading 26 = .ok (.aload_n 0, 1) := by decide +kernel
theorem dX2_startReading_27 : decode cX2_startReading 27 = .ok (.iconst 0, 1) := by decide +kernel
theorem dX2_startReading_28 : decode cX2_startReading 28 = .ok (.putfield 44, 3) := by decide +kernel
theorem dX2_startReading_31 : decode cX2_startReading 31 = .ok (.aload_n 0, 1) := by decide +kernel
theorem dX2_startReading_32 : decode cX2_startReading 32 = .ok (.iconst 0, 1) := by decide +kernel
theorem dX2_startReading_33 : decode cX2_startReading 33 = .ok (.putfield 47, 3) := by decide +kernel
theorem dX2_startReading_36 : decode cX2_startReading 36 = .ok (.return_, 1) := by decide +kernel
theorem dX2_faultOf_0 : decode cX2_faultOf 0 = .ok (.aload_n 0, 1) := by decide +kernel
theorem dX2_faultOf_1 : decode cX2_faultOf 1 = .ok (.getfield 44, 3) := by decide +kernel
theorem dX2_faultOf_4 : decode cX2_faultOf 4 = .ok (.lookupswitch 40 #[(0, 28), (1, 34)], 28) := by decide +kernel
theorem dX2_faultOf_32 : decode cX2_faultOf 32 = .ok (.aload_n 0, 1) := by decide +kernel
theorem dX2_faultOf_33 : decode cX2_faultOf 33 = .ok (.iload_n 1, 1) := by decide +kernel
theorem dX2_faultOf_34 : decode cX2_faultOf 34 = .ok (.invokevirtual 50, 3) := by decide +kernel
theorem dX2_faultOf_37 : decode cX2_faultOf 37 = .ok (.ireturn, 1) := by decide +kernel
theorem dX2_faultOf_38 : decode cX2_faultOf 38 = .ok (.aload_n 0, 1) := by decide +kernel
theorem dX2_faultOf_39 : decode cX2_faultOf 39 = .ok (.iload_n 1, 1) := by decide +kernel
theorem dX2_faultOf_40 : decode cX2_faultOf 40 = .ok (.invokevirtual 53, 3) := by decide +kernel
theorem dX2_faultOf_43 : decode cX2_faultOf 43 = .ok (.ireturn, 1) := by decide +kernel
theorem dX2_faultOf_44 : decode cX2_faultOf 44 = .ok (.iload_n 1, 1) := by decide +kernel
theorem dX2_faultOf_45 : decode cX2_faultOf 45 = .ok (.invokestatic 56, 3) := by decide +kernel
theorem dX2_faultOf_48 : decode cX2_faultOf 48 = .ok (.ifCond .eq 11, 3) := by decide +kernel
theorem dX2_faultOf_51 : decode cX2_faultOf 51 = .ok (.aload_n 0, 1) := by decide +kernel
theorem dX2_faultOf_52 : decode cX2_faultOf 52 = .ok (.iload_n 1, 1) := by decide +kernel
theorem dX2_faultOf_53 : decode cX2_faultOf 53 = .ok (.invokevirtual 60, 3) := by decide +kernel
theorem dX2_faultOf_56 : decode cX2_faultOf 56 = .ok (.goto 8, 3) := by decide +kernel
theorem dX2_faultOf_59 : decode cX2_faultOf 59 = .ok (.aload_n 0, 1) := by decide +kernel
theorem dX2_faultOf_60 : decode cX2_faultOf 60 = .ok (.iload_n 1, 1) := by decide +kernel
theorem dX2_faultOf_61 : decode cX2_faultOf 61 = .ok (.invokevirtual 63, 3) := by decide +kernel
theorem dX2_faultOf_64 : decode cX2_faultOf 64 = .ok (.ireturn, 1) := by decide +kernel
theorem dX2_faultOfEnd_0 : decode cX2_faultOfEnd 0 = .ok (.aload_n 0, 1) := by decide +kernel
theorem dX2_faultOfEnd_1 : decode cX2_faultOfEnd 1 = .ok (.getfield 44, 3) := by decide +kernel
theorem dX2_faultOfEnd_4 : decode cX2_faultOfEnd 4 = .ok (.iconst 2, 1) := by decide +kernel
theorem dX2_faultOfEnd_5 : decode cX2_faultOfEnd 5 = .ok (.if_icmp .ne 19, 3) := by decide +kernel
theorem dX2_faultOfEnd_8 : decode cX2_faultOfEnd 8 = .ok (.aload_n 0, 1) := by decide +kernel
theorem dX2_faultOfEnd_9 : decode cX2_faultOfEnd 9 = .ok (.getfield 47, 3) := by decide +kernel
theorem dX2_faultOfEnd_12 : decode cX2_faultOfEnd 12 = .ok (.aload_n 0, 1) := by decide +kernel
theorem dX2_faultOfEnd_13 : decode cX2_faultOfEnd 13 = .ok (.getfield 66, 3) := by decide +kernel
theorem dX2_faultOfEnd_16 : decode cX2_faultOfEnd 16 = .ok (.invokestatic 69, 3) := by decide +kernel
theorem dX2_faultOfEnd_19 : decode cX2_faultOfEnd 19 = .ok (.ifCond .eq 5, 3) := by decide +kernel
theorem dX2_faultOfEnd_22 : decode cX2_faultOfEnd 22 = .ok (.iconst 3, 1) := by decide +kernel
theorem dX2_faultOfEnd_23 : decode cX2_faultOfEnd 23 = .ok (.ireturn, 1) := by decide +kernel
theorem dX2_faultOfEnd_24 : decode cX2_faultOfEnd 24 = .ok (.aload_n 0, 1) := by decide +kernel
theorem dX2_faultOfEnd_25 : decode cX2_faultOfEnd 25 = .ok (.getfield 44, 3) := by decide +kernel
theorem dX2_faultOfEnd_28 : decode cX2_faultOfEnd 28 = .ok (.ifCond .ne 14, 3) := by decide +kernel
theorem dX2_faultOfEnd_31 : decode cX2_faultOfEnd 31 = .ok (.aload_n 0, 1) := by decide +kernel
theorem dX2_faultOfEnd_32 : decode cX2_faultOfEnd 32 = .ok (.getfield 47, 3) := by decide +kernel
theorem dX2_faultOfEnd_35 : decode cX2_faultOfEnd 35 = .ok (.ifCond .eq 7, 3) := by decide +kernel
theorem dX2_faultOfEnd_38 : decode cX2_faultOfEnd 38 = .ok (.iconst 0, 1) := by decide +kernel
theorem dX2_faultOfEnd_39 : decode cX2_faultOfEnd 39 = .ok (.goto 4, 3) := by decide +kernel
theorem dX2_faultOfEnd_42 : decode cX2_faultOfEnd 42 = .ok (.iconst 1, 1) := by decide +kernel
theorem dX2_faultOfEnd_43 : decode cX2_faultOfEnd 43 = .ok (.ireturn, 1) := by decide +kernel
theorem dX2_startRound_0 : decode cX2_startRound 0 = .ok (.iload_n 1, 1) := by decide +kernel
theorem dX2_startRound_1 : decode cX2_startRound 1 = .ok (.bipush 40, 2) := by decide +kernel
theorem dX2_startRound_3 : decode cX2_startRound 3 = .ok (.if_icmp .eq 5, 3) := by decide +kernel
theorem dX2_startRound_6 : decode cX2_startRound 6 = .ok (.iconst 4, 1) := by decide +kernel
theorem dX2_startRound_7 : decode cX2_startRound 7 = .ok (.ireturn, 1) := by decide +kernel
theorem dX2_startRound_8 : decode cX2_startRound 8 = .ok (.aload_n 0, 1) := by decide +kernel
theorem dX2_startRound_9 : decode cX2_startRound 9 = .ok (.bipush (-5), 2) := by decide +kernel
theorem dX2_startRound_11 : decode cX2_startRound 11 = .ok (.putfield 73, 3) := by decide +kernel
theorem dX2_startRound_14 : decode cX2_startRound 14 = .ok (.aload_n 0, 1) := by decide +kernel
theorem dX2_startRound_15 : decode cX2_startRound 15 = .ok (.iconst 1, 1) := by decide +kernel
theorem dX2_startRound_16 : decode cX2_startRound 16 = .ok (.putfield 44, 3) := by decide +kernel
theorem dX2_startRound_19 : decode cX2_startRound 19 = .ok (.iconst 0, 1) := by decide +kernel
theorem dX2_startRound_20 : decode cX2_startRound 20 = .ok (.ireturn, 1) := by decide +kernel
theorem dX2_startPlace_0 : decode cX2_startPlace 0 = .ok (.iload_n 1, 1) := by decide +kernel
theorem dX2_startPlace_1 : decode cX2_startPlace 1 = .ok (.invokestatic 56, 3) := by decide +kernel
theorem dX2_startPlace_4 : decode cX2_startPlace 4 = .ok (.ifCond .ne 5, 3) := by decide +kernel
theorem dX2_startPlace_7 : decode cX2_startPlace 7 = .ok (.iconst 4, 1) := by decide +kernel
theorem dX2_startPlace_8 : decode cX2_startPlace 8 = .ok (.ireturn, 1) := by decide +kernel
theorem dX2_startPlace_9 : decode cX2_startPlace 9 = .ok (.aload_n 0, 1) := by decide +kernel
theorem dX2_startPlace_10 : decode cX2_startPlace 10 = .ok (.iload_n 1, 1) := by decide +kernel
theorem dX2_startPlace_11 : decode cX2_startPlace 11 = .ok (.bipush 48, 2) := by decide +kernel
theorem dX2_startPlace_13 : decode cX2_startPlace 13 = .ok (.isub, 1) := by decide +kernel
theorem dX2_startPlace_14 : decode cX2_startPlace 14 = .ok (.putfield 66, 3) := by decide +kernel
theorem dX2_startPlace_17 : decode cX2_startPlace 17 = .ok (.aload_n 0, 1) := by decide +kernel
theorem dX2_startPlace_18 : decode cX2_startPlace 18 = .ok (.iconst 2, 1) := by decide +kernel
theorem dX2_startPlace_19 : decode cX2_startPlace 19 = .ok (.putfield 44, 3) := by decide +kernel
theorem dX2_startPlace_22 : decode cX2_startPlace 22 = .ok (.iconst 0, 1) := by decide +kernel
theorem dX2_startPlace_23 : decode cX2_startPlace 23 = .ok (.ireturn, 1) := by decide +kernel
theorem dX2_lengthenPlace_0 : decode cX2_lengthenPlace 0 = .ok (.aload_n 0, 1) := by decide +kernel
theorem dX2_lengthenPlace_1 : decode cX2_lengthenPlace 1 = .ok (.getfield 66, 3) := by decide +kernel
theorem dX2_lengthenPlace_4 : decode cX2_lengthenPlace 4 = .ok (.bipush 10, 2) := by decide +kernel
theorem dX2_lengthenPlace_6 : decode cX2_lengthenPlace 6 = .ok (.imul, 1) := by decide +kernel
theorem dX2_lengthenPlace_7 : decode cX2_lengthenPlace 7 = .ok (.iload_n 1, 1) := by decide +kernel
theorem dX2_lengthenPlace_8 : decode cX2_lengthenPlace 8 = .ok (.bipush 48, 2) := by decide +kernel
theorem dX2_lengthenPlace_10 : decode cX2_lengthenPlace 10 = .ok (.isub, 1) := by decide +kernel
theorem dX2_lengthenPlace_11 : decode cX2_lengthenPlace 11 = .ok (.iadd, 1) := by decide +kernel
theorem dX2_lengthenPlace_12 : decode cX2_lengthenPlace 12 = .ok (.istore_n 2, 1) := by decide +kernel
theorem dX2_lengthenPlace_13 : decode cX2_lengthenPlace 13 = .ok (.aload_n 0, 1) := by decide +kernel
theorem dX2_lengthenPlace_14 : decode cX2_lengthenPlace 14 = .ok (.getfield 66, 3) := by decide +kernel
theorem dX2_lengthenPlace_17 : decode cX2_lengthenPlace 17 = .ok (.ifCond .eq 9, 3) := by decide +kernel
theorem dX2_lengthenPlace_20 : decode cX2_lengthenPlace 20 = .ok (.iload_n 2, 1) := by decide +kernel
theorem dX2_lengthenPlace_21 : decode cX2_lengthenPlace 21 = .ok (.bipush 24, 2) := by decide +kernel
theorem dX2_lengthenPlace_23 : decode cX2_lengthenPlace 23 = .ok (.if_icmp .lt 5, 3) := by decide +kernel
theorem dX2_lengthenPlace_26 : decode cX2_lengthenPlace 26 = .ok (.iconst 2, 1) := by decide +kernel
theorem dX2_lengthenPlace_27 : decode cX2_lengthenPlace 27 = .ok (.ireturn, 1) := by decide +kernel
theorem dX2_lengthenPlace_28 : decode cX2_lengthenPlace 28 = .ok (.aload_n 0, 1) := by decide +kernel
theorem dX2_lengthenPlace_29 : decode cX2_lengthenPlace 29 = .ok (.iload_n 2, 1) := by decide +kernel
theorem dX2_lengthenPlace_30 : decode cX2_lengthenPlace 30 = .ok (.putfield 66, 3) := by decide +kernel
theorem dX2_lengthenPlace_33 : decode cX2_lengthenPlace 33 = .ok (.iconst 0, 1) := by decide +kernel
theorem dX2_lengthenPlace_34 : decode cX2_lengthenPlace 34 = .ok (.ireturn, 1) := by decide +kernel
theorem dX2_endPlace_0 : decode cX2_endPlace 0 = .ok (.aload_n 0, 1) := by decide +kernel
theorem dX2_endPlace_1 : decode cX2_endPlace 1 = .ok (.getfield 47, 3) := by decide +kernel
theorem dX2_endPlace_4 : decode cX2_endPlace 4 = .ok (.aload_n 0, 1) := by decide +kernel
theorem dX2_endPlace_5 : decode cX2_endPlace 5 = .ok (.getfield 66, 3) := by decide +kernel
theorem dX2_endPlace_8 : decode cX2_endPlace 8 = .ok (.invokestatic 69, 3) := by decide +kernel
theorem dX2_endPlace_11 : decode cX2_endPlace 11 = .ok (.ifCond .eq 5, 3) := by decide +kernel
theorem dX2_endPlace_14 : decode cX2_endPlace 14 = .ok (.iconst 3, 1) := by decide +kernel
theorem dX2_endPlace_15 : decode cX2_endPlace 15 = .ok (.ireturn, 1) := by decide +kernel
theorem dX2_endPlace_16 : decode cX2_endPlace 16 = .ok (.aload_n 0, 1) := by decide +kernel
theorem dX2_endPlace_17 : decode cX2_endPlace 17 = .ok (.getfield 73, 3) := by decide +kernel
theorem dX2_endPlace_20 : decode cX2_endPlace 20 = .ok (.bipush (-5), 2) := by decide +kernel
theorem dX2_endPlace_22 : decode cX2_endPlace 22 = .ok (.if_icmp .ne 7, 3) := by decide +kernel
theorem dX2_endPlace_25 : decode cX2_endPlace 25 = .ok (.iconst 1, 1) := by decide +kernel
theorem dX2_endPlace_26 : decode cX2_endPlace 26 = .ok (.goto 4, 3) := by decide +kernel
theorem dX2_endPlace_29 : decode cX2_endPlace 29 = .ok (.iconst 0, 1) := by decide +kernel
theorem dX2_endPlace_30 : decode cX2_endPlace 30 = .ok (.istore_n 2, 1) := by decide +kernel
theorem dX2_endPlace_31 : decode cX2_endPlace 31 = .ok (.iload_n 1, 1) := by decide +kernel
theorem dX2_endPlace_32 : decode cX2_endPlace 32 = .ok (.bipush 44, 2) := by decide +kernel
theorem dX2_endPlace_34 : decode cX2_endPlace 34 = .ok (.if_icmp .eq 15, 3) := by decide +kernel
theorem dX2_endPlace_37 : decode cX2_endPlace 37 = .ok (.iload_n 1, 1) := by decide +kernel
theorem dX2_endPlace_38 : decode cX2_endPlace 38 = .ok (.bipush 41, 2) := by decide +kernel
theorem dX2_endPlace_40 : decode cX2_endPlace 40 = .ok (.if_icmp .ne 7, 3) := by decide +kernel
theorem dX2_endPlace_43 : decode cX2_endPlace 43 = .ok (.iload_n 2, 1) := by decide +kernel
theorem dX2_endPlace_44 : decode cX2_endPlace 44 = .ok (.ifCond .eq 5, 3) := by decide +kernel
theorem dX2_endPlace_47 : decode cX2_endPlace 47 = .ok (.iconst 4, 1) := by decide +kernel
theorem dX2_endPlace_48 : decode cX2_endPlace 48 = .ok (.ireturn, 1) := by decide +kernel
theorem dX2_endPlace_49 : decode cX2_endPlace 49 = .ok (.iload_n 2, 1) := by decide +kernel
theorem dX2_endPlace_50 : decode cX2_endPlace 50 = .ok (.ifCond .eq 14, 3) := by decide +kernel
theorem dX2_endPlace_53 : decode cX2_endPlace 53 = .ok (.aload_n 0, 1) := by decide +kernel
theorem dX2_endPlace_54 : decode cX2_endPlace 54 = .ok (.aload_n 0, 1) := by decide +kernel
theorem dX2_endPlace_55 : decode cX2_endPlace 55 = .ok (.getfield 66, 3) := by decide +kernel
theorem dX2_endPlace_58 : decode cX2_endPlace 58 = .ok (.putfield 73, 3) := by decide +kernel
theorem dX2_endPlace_61 : decode cX2_endPlace 61 = .ok (.goto 15, 3) := by decide +kernel
theorem dX2_endPlace_64 : decode cX2_endPlace 64 = .ok (.aload_n 0, 1) := by decide +kernel
theorem dX2_endPlace_65 : decode cX2_endPlace 65 = .ok (.aload_n 0, 1) := by decide +kernel
theorem dX2_endPlace_66 : decode cX2_endPlace 66 = .ok (.getfield 76, 3) := by decide +kernel
theorem dX2_endPlace_69 : decode cX2_endPlace 69 = .ok (.aload_n 0, 1) := by decide +kernel
theorem dX2_endPlace_70 : decode cX2_endPlace 70 = .ok (.getfield 66, 3) := by decide +kernel
theorem dX2_endPlace_73 : decode cX2_endPlace 73 = .ok (.invokevirtual 79, 3) := by decide +kernel
theorem dX2_endPlace_76 : decode cX2_endPlace 76 = .ok (.aload_n 0, 1) := by decide +kernel
theorem dX2_endPlace_77 : decode cX2_endPlace 77 = .ok (.dup, 1) := by decide +kernel
theorem dX2_endPlace_78 : decode cX2_endPlace 78 = .ok (.getfield 47, 3) := by decide +kernel
theorem dX2_endPlace_81 : decode cX2_endPlace 81 = .ok (.aload_n 0, 1) := by decide +kernel
theorem dX2_endPlace_82 : decode cX2_endPlace 82 = .ok (.getfield 66, 3) := by decide +kernel
theorem dX2_endPlace_85 : decode cX2_endPlace 85 = .ok (.invokestatic 83, 3) := by decide +kernel
theorem dX2_endPlace_88 : decode cX2_endPlace 88 = .ok (.ior, 1) := by decide +kernel
theorem dX2_endPlace_89 : decode cX2_endPlace 89 = .ok (.putfield 47, 3) := by decide +kernel
theorem dX2_endPlace_92 : decode cX2_endPlace 92 = .ok (.aload_n 0, 1) := by decide +kernel
theorem dX2_endPlace_93 : decode cX2_endPlace 93 = .ok (.aload_n 0, 1) := by decide +kernel
theorem dX2_endPlace_94 : decode cX2_endPlace 94 = .ok (.getfield 66, 3) := by decide +kernel
theorem dX2_endPlace_97 : decode cX2_endPlace 97 = .ok (.putfield 76, 3) := by decide +kernel
theorem dX2_endPlace_100 : decode cX2_endPlace 100 = .ok (.aload_n 0, 1) := by decide +kernel
theorem dX2_endPlace_101 : decode cX2_endPlace 101 = .ok (.iconst 1, 1) := by decide +kernel
theorem dX2_endPlace_102 : decode cX2_endPlace 102 = .ok (.putfield 44, 3) := by decide +kernel
theorem dX2_endPlace_105 : decode cX2_endPlace 105 = .ok (.iload_n 1, 1) := by decide +kernel
theorem dX2_endPlace_106 : decode cX2_endPlace 106 = .ok (.bipush 41, 2) := by decide +kernel
theorem dX2_endPlace_108 : decode cX2_endPlace 108 = .ok (.if_icmp .ne 20, 3) := by decide +kernel
theorem dX2_endPlace_111 : decode cX2_endPlace 111 = .ok (.aload_n 0, 1) := by decide +kernel
theorem dX2_endPlace_112 : decode cX2_endPlace 112 = .ok (.aload_n 0, 1) := by decide +kernel
theorem dX2_endPlace_113 : decode cX2_endPlace 113 = .ok (.getfield 76, 3) := by decide +kernel
theorem dX2_endPlace_116 : decode cX2_endPlace 116 = .ok (.aload_n 0, 1) := by decide +kernel
theorem dX2_endPlace_117 : decode cX2_endPlace 117 = .ok (.getfield 73, 3) := by decide +kernel
theorem dX2_endPlace_120 : decode cX2_endPlace 120 = .ok (.invokevirtual 79, 3) := by decide +kernel
theorem dX2_endPlace_123 : decode cX2_endPlace 123 = .ok (.aload_n 0, 1) := by decide +kernel
theorem dX2_endPlace_124 : decode cX2_endPlace 124 = .ok (.iconst 0, 1) := by decide +kernel
theorem dX2_endPlace_125 : decode cX2_endPlace 125 = .ok (.putfield 44, 3) := by decide +kernel
theorem dX2_endPlace_128 : decode cX2_endPlace 128 = .ok (.iconst 0, 1) := by decide +kernel
theorem dX2_endPlace_129 : decode cX2_endPlace 129 = .ok (.ireturn, 1) := by decide +kernel
theorem dX2_send_0 : decode cX2_send 0 = .ok (.iload_n 1, 1) := by decide +kernel
theorem dX2_send_1 : decode cX2_send 1 = .ok (.invokestatic 29, 3) := by decide +kernel
theorem dX2_send_4 : decode cX2_send 4 = .ok (.ifCond .eq 17, 3) := by decide +kernel
theorem dX2_send_7 : decode cX2_send 7 = .ok (.iload_n 2, 1) := by decide +kernel
theorem dX2_send_8 : decode cX2_send 8 = .ok (.invokestatic 29, 3) := by decide +kernel
theorem dX2_send_11 : decode cX2_send 11 = .ok (.ifCond .eq 10, 3) := by decide +kernel
theorem dX2_send_14 : decode cX2_send 14 = .ok (.aload_n 0, 1) := by decide +kernel
theorem dX2_send_15 : decode cX2_send 15 = .ok (.getfield 15, 3) := by decide +kernel
theorem dX2_send_18 : decode cX2_send 18 = .ok (.iload_n 1, 1) := by decide +kernel
theorem dX2_send_19 : decode cX2_send 19 = .ok (.iload_n 2, 1) := by decide +kernel
theorem dX2_send_20 : decode cX2_send 20 = .ok (.iastore, 1) := by decide +kernel
theorem dX2_send_21 : decode cX2_send 21 = .ok (.return_, 1) := by decide +kernel
theorem dX2_isDigit_0 : decode cX2_isDigit 0 = .ok (.iload_n 0, 1) := by decide +kernel
theorem dX2_isDigit_1 : decode cX2_isDigit 1 = .ok (.bipush 48, 2) := by decide +kernel
theorem dX2_isDigit_3 : decode cX2_isDigit 3 = .ok (.if_icmp .lt 13, 3) := by decide +kernel
theorem dX2_isDigit_6 : decode cX2_isDigit 6 = .ok (.iload_n 0, 1) := by decide +kernel
theorem dX2_isDigit_7 : decode cX2_isDigit 7 = .ok (.bipush 57, 2) := by decide +kernel
theorem dX2_isDigit_9 : decode cX2_isDigit 9 = .ok (.if_icmp .gt 7, 3) := by decide +kernel
theorem dX2_isDigit_12 : decode cX2_isDigit 12 = .ok (.iconst 1, 1) := by decide +kernel
theorem dX2_isDigit_13 : decode cX2_isDigit 13 = .ok (.goto 4, 3) := by decide +kernel
theorem dX2_isDigit_16 : decode cX2_isDigit 16 = .ok (.iconst 0, 1) := by decide +kernel
theorem dX2_isDigit_17 : decode cX2_isDigit 17 = .ok (.ireturn, 1) := by decide +kernel
theorem dX3_init_0 : decode cX3_init 0 = .ok (.aload_n 0, 1) := by decide +kernel
theorem dX3_init_1 : decode cX3_init 1 = .ok (.invokespecial 3, 3) := by decide +kernel
theorem dX3_init_4 : decode cX3_init 4 = .ok (.aload_n 0, 1) := by decide +kernel
theorem dX3_init_5 : decode cX3_init 5 = .ok (.new 9, 3) := by decide +kernel
theorem dX3_init_8 : decode cX3_init 8 = .ok (.dup, 1) := by decide +kernel
theorem dX3_init_9 : decode cX3_init 9 = .ok (.invokespecial 11, 3) := by decide +kernel
theorem dX3_init_12 : decode cX3_init 12 = .ok (.putfield 12, 3) := by decide +kernel
theorem dX3_init_15 : decode cX3_init 15 = .ok (.aload_n 0, 1) := by decide +kernel
theorem dX3_init_16 : decode cX3_init 16 = .ok (.bipush 12, 2) := by decide +kernel
theorem dX3_init_18 : decode cX3_init 18 = .ok (.newarray .int, 2) := by decide +kernel
theorem dX3_init_20 : decode cX3_init 20 = .ok (.putfield 18, 3) := by decide +kernel
theorem dX3_init_23 : decode cX3_init 23 = .ok (.aload_n 0, 1) := by decide +kernel
theorem dX3_init_24 : decode cX3_init 24 = .ok (.bipush 12, 2) := by decide +kernel
theorem dX3_init_26 : decode cX3_init 26 = .ok (.newarray .int, 2) := by decide +kernel
theorem dX3_init_28 : decode cX3_init 28 = .ok (.putfield 22, 3) := by decide +kernel
theorem dX3_init_31 : decode cX3_init 31 = .ok (.aload_n 0, 1) := by decide +kernel
theorem dX3_init_32 : decode cX3_init 32 = .ok (.bipush 12, 2) := by decide +kernel
theorem dX3_init_34 : decode cX3_init 34 = .ok (.newarray .int, 2) := by decide +kernel
theorem dX3_init_36 : decode cX3_init 36 = .ok (.putfield 25, 3) := by decide +kernel
theorem dX3_init_39 : decode cX3_init 39 = .ok (.return_, 1) := by decide +kernel
theorem dX3_copy_0 : decode cX3_copy 0 = .ok (.aload_n 0, 1) := by decide +kernel
theorem dX3_copy_1 : decode cX3_copy 1 = .ok (.getfield 12, 3) := by decide +kernel
theorem dX3_copy_4 : decode cX3_copy 4 = .ok (.aload_n 1, 1) := by decide +kernel
theorem dX3_copy_5 : decode cX3_copy 5 = .ok (.getfield 12, 3) := by decide +kernel
theorem dX3_copy_8 : decode cX3_copy 8 = .ok (.invokevirtual 28, 3) := by decide +kernel
theorem dX3_copy_11 : decode cX3_copy 11 = .ok (.aload_n 1, 1) := by decide +kernel
theorem dX3_copy_12 : decode cX3_copy 12 = .ok (.getfield 18, 3) := by decide +kernel
theorem dX3_copy_15 : decode cX3_copy 15 = .ok (.iconst 0, 1) := by decide +kernel
theorem dX3_copy_16 : decode cX3_copy 16 = .ok (.aload_n 0, 1) := by decide +kernel
theorem dX3_copy_17 : decode cX3_copy 17 = .ok (.getfield 18, 3) := by decide +kernel
theorem dX3_copy_20 : decode cX3_copy 20 = .ok (.iconst 0, 1) := by decide +kernel
theorem dX3_copy_21 : decode cX3_copy 21 = .ok (.bipush 12, 2) := by decide +kernel
theorem dX3_copy_23 : decode cX3_copy 23 = .ok (.invokestatic 32, 3) := by decide +kernel
theorem dX3_copy_26 : decode cX3_copy 26 = .ok (.aload_n 1, 1) := by decide +kernel
theorem dX3_copy_27 : decode cX3_copy 27 = .ok (.getfield 22, 3) := by decide +kernel
theorem dX3_copy_30 : decode cX3_copy 30 = .ok (.iconst 0, 1) := by decide +kernel
theorem dX3_copy_31 : decode cX3_copy 31 = .ok (.aload_n 0, 1) := by decide +kernel
theorem dX3_copy_32 : decode cX3_copy 32 = .ok (.getfield 22, 3) := by decide +kernel
theorem dX3_copy_35 : decode cX3_copy 35 = .ok (.iconst 0, 1) := by decide +kernel
theorem dX3_copy_36 : decode cX3_copy 36 = .ok (.bipush 12, 2) := by decide +kernel
theorem dX3_copy_38 : decode cX3_copy 38 = .ok (.invokestatic 32, 3) := by decide +kernel
theorem dX3_copy_41 : decode cX3_copy 41 = .ok (.aload_n 1, 1) := by decide +kernel
theorem dX3_copy_42 : decode cX3_copy 42 = .ok (.getfield 25, 3) := by decide +kernel
theorem dX3_copy_45 : decode cX3_copy 45 = .ok (.iconst 0, 1) := by decide +kernel
theorem dX3_copy_46 : decode cX3_copy 46 = .ok (.aload_n 0, 1) := by decide +kernel
theorem dX3_copy_47 : decode cX3_copy 47 = .ok (.getfield 25, 3) := by decide +kernel
theorem dX3_copy_50 : decode cX3_copy 50 = .ok (.iconst 0, 1) := by decide +kernel
theorem dX3_copy_51 : decode cX3_copy 51 = .ok (.bipush 12, 2) := by decide +kernel
theorem dX3_copy_53 : decode cX3_copy 53 = .ok (.invokestatic 32, 3) := by decide +kernel
theorem dX3_copy_56 : decode cX3_copy 56 = .ok (.aload_n 0, 1) := by decide +kernel
theorem dX3_copy_57 : decode cX3_copy 57 = .ok (.aload_n 1, 1) := by decide +kernel
theorem dX3_copy_58 : decode cX3_copy 58 = .ok (.getfield 38, 3) := by decide +kernel
theorem dX3_copy_61 : decode cX3_copy 61 = .ok (.putfield 38, 3) := by decide +kernel
theorem dX3_copy_64 : decode cX3_copy 64 = .ok (.aload_n 0, 1) := by decide +kernel
theorem dX3_copy_65 : decode cX3_copy 65 = .ok (.aload_n 1, 1) := by decide +kernel
theorem dX3_copy_66 : decode cX3_copy 66 = .ok (.getfield 42, 3) := by decide +kernel
theorem dX3_copy_69 : decode cX3_copy 69 = .ok (.putfield 42, 3) := by decide +kernel
theorem dX3_copy_72 : decode cX3_copy 72 = .ok (.aload_n 0, 1) := by decide +kernel
theorem dX3_copy_73 : decode cX3_copy 73 = .ok (.aload_n 1, 1) := by decide +kernel
theorem dX3_copy_74 : decode cX3_copy 74 = .ok (.getfield 45, 3) := by decide +kernel
theorem dX3_copy_77 : decode cX3_copy 77 = .ok (.putfield 45, 3) := by decide +kernel
theorem dX3_copy_80 : decode cX3_copy 80 = .ok (.aload_n 0, 1) := by decide +kernel
theorem dX3_copy_81 : decode cX3_copy 81 = .ok (.aload_n 1, 1) := by decide +kernel
theorem dX3_copy_82 : decode cX3_copy 82 = .ok (.getfield 48, 3) := by decide +kernel
theorem dX3_copy_85 : decode cX3_copy 85 = .ok (.putfield 48, 3) := by decide +kernel
theorem dX3_copy_88 : decode cX3_copy 88 = .ok (.aload_n 0, 1) := by decide +kernel
theorem dX3_copy_89 : decode cX3_copy 89 = .ok (.aload_n 1, 1) := by decide +kernel
theorem dX3_copy_90 : decode cX3_copy 90 = .ok (.getfield 51, 3) := by decide +kernel
theorem dX3_copy_93 : decode cX3_copy 93 = .ok (.putfield 51, 3) := by decide +kernel
theorem dX3_copy_96 : decode cX3_copy 96 = .ok (.return_, 1) := by decide +kernel
theorem dX3_isTicket_0 : decode cX3_isTicket 0 = .ok (.iload_n 1, 1) := by decide +kernel
theorem dX3_isTicket_1 : decode cX3_isTicket 1 = .ok (.ifCond .lt 21, 3) := by decide +kernel
theorem dX3_isTicket_4 : decode cX3_isTicket 4 = .ok (.iload_n 1, 1) := by decide +kernel
theorem dX3_isTicket_5 : decode cX3_isTicket 5 = .ok (.aload_n 0, 1) := by decide +kernel
theorem dX3_isTicket_6 : decode cX3_isTicket 6 = .ok (.getfield 38, 3) := by decide +kernel
theorem dX3_isTicket_9 : decode cX3_isTicket 9 = .ok (.if_icmp .ge 13, 3) := by decide +kernel
theorem dX3_isTicket_12 : decode cX3_isTicket 12 = .ok (.iload_n 1, 1) := by decide +kernel
theorem dX3_isTicket_13 : decode cX3_isTicket 13 = .ok (.bipush 12, 2) := by decide +kernel
theorem dX3_isTicket_15 : decode cX3_isTicket 15 = .ok (.if_icmp .ge 7, 3) := by decide +kernel
theorem dX3_isTicket_18 : decode cX3_isTicket 18 = .ok (.iconst 1, 1) := by decide +kernel
theorem dX3_isTicket_19 : decode cX3_isTicket 19 = .ok (.goto 4, 3) := by decide +kernel
theorem dX3_isTicket_22 : decode cX3_isTicket 22 = .ok (.iconst 0, 1) := by decide +kernel
theorem dX3_isTicket_23 : decode cX3_isTicket 23 = .ok (.ireturn, 1) := by decide +kernel
theorem dX3_holes_0 : decode cX3_holes 0 = .ok (.aload_n 0, 1) := by decide +kernel
theorem dX3_holes_1 : decode cX3_holes 1 = .ok (.iload_n 1, 1) := by decide +kernel
theorem dX3_holes_2 : decode cX3_holes 2 = .ok (.invokevirtual 54, 3) := by decide +kernel
theorem dX3_holes_5 : decode cX3_holes 5 = .ok (.ifCond .eq 12, 3) := by decide +kernel
theorem dX3_holes_8 : decode cX3_holes 8 = .ok (.aload_n 0, 1) := by decide +kernel
theorem dX3_holes_9 : decode cX3_holes 9 = .ok (.getfield 18, 3) := by decide +kernel
theorem dX3_holes_12 : decode cX3_holes 12 = .ok (.iload_n 1, 1) := by decide +kernel
theorem dX3_holes_13 : decode cX3_holes 13 = .ok (.iaload, 1) := by decide +kernel
theorem dX3_holes_14 : decode cX3_holes 14 = .ok (.goto 4, 3) := by decide +kernel
theorem dX3_holes_17 : decode cX3_holes 17 = .ok (.iconst 0, 1) := by decide +kernel
theorem dX3_holes_18 : decode cX3_holes 18 = .ok (.ireturn, 1) := by decide +kernel
theorem dX3_due_0 : decode cX3_due 0 = .ok (.aload_n 0, 1) := by decide +kernel
theorem dX3_due_1 : decode cX3_due 1 = .ok (.iload_n 1, 1) := by decide +kernel
theorem dX3_due_2 : decode cX3_due 2 = .ok (.invokevirtual 54, 3) := by decide +kernel
theorem dX3_due_5 : decode cX3_due 5 = .ok (.ifCond .eq 12, 3) := by decide +kernel
theorem dX3_due_8 : decode cX3_due 8 = .ok (.aload_n 0, 1) := by decide +kernel
theorem dX3_due_9 : decode cX3_due 9 = .ok (.getfield 22, 3) := by decide +kernel
theorem dX3_due_12 : decode cX3_due 12 = .ok (.iload_n 1, 1) := by decide +kernel
theorem dX3_due_13 : decode cX3_due 13 = .ok (.iaload, 1) := by decide +kernel
theorem dX3_due_14 : decode cX3_due 14 = .ok (.goto 4, 3) := by decide +kernel
theorem dX3_due_17 : decode cX3_due 17 = .ok (.iconst 0, 1) := by decide +kernel
theorem dX3_due_18 : decode cX3_due 18 = .ok (.ireturn, 1) := by decide +kernel
theorem dX3_turnedBy_0 : decode cX3_turnedBy 0 = .ok (.aload_n 0, 1) := by decide +kernel
theorem dX3_turnedBy_1 : decode cX3_turnedBy 1 = .ok (.iload_n 1, 1) := by decide +kernel
theorem dX3_turnedBy_2 : decode cX3_turnedBy 2 = .ok (.invokevirtual 54, 3) := by decide +kernel
theorem dX3_turnedBy_5 : decode cX3_turnedBy 5 = .ok (.ifCond .eq 12, 3) := by decide +kernel
theorem dX3_turnedBy_8 : decode cX3_turnedBy 8 = .ok (.aload_n 0, 1) := by decide +kernel
theorem dX3_turnedBy_9 : decode cX3_turnedBy 9 = .ok (.getfield 25, 3) := by decide +kernel
theorem dX3_turnedBy_12 : decode cX3_turnedBy 12 = .ok (.iload_n 1, 1) := by decide +kernel
theorem dX3_turnedBy_13 : decode cX3_turnedBy 13 = .ok (.iaload, 1) := by decide +kernel
theorem dX3_turnedBy_14 : decode cX3_turnedBy 14 = .ok (.goto 4, 3) := by decide +kernel
theorem dX3_turnedBy_17 : decode cX3_turnedBy 17 = .ok (.iconst 0, 1) := by decide +kernel
theorem dX3_turnedBy_18 : decode cX3_turnedBy 18 = .ok (.ireturn, 1) := by decide +kernel
theorem dX3_sold_0 : decode cX3_sold 0 = .ok (.aload_n 0, 1) := by decide +kernel
theorem dX3_sold_1 : decode cX3_sold 1 = .ok (.getfield 38, 3) := by decide +kernel
theorem dX3_sold_4 : decode cX3_sold 4 = .ok (.ireturn, 1) := by decide +kernel
theorem dX3_stacked_0 : decode cX3_stacked 0 = .ok (.aload_n 0, 1) := by decide +kernel
theorem dX3_stacked_1 : decode cX3_stacked 1 = .ok (.getfield 42, 3) := by decide +kernel
theorem dX3_stacked_4 : decode cX3_stacked 4 = .ok (.ireturn, 1) := by decide +kernel
theorem dX3_punched_0 : decode cX3_punched 0 = .ok (.aload_n 0, 1) := by decide +kernel
theorem dX3_punched_1 : decode cX3_punched 1 = .ok (.getfield 45, 3) := by decide +kernel
theorem dX3_punched_4 : decode cX3_punched 4 = .ok (.ireturn, 1) := by decide +kernel
theorem dX3_frauds_0 : decode cX3_frauds 0 = .ok (.aload_n 0, 1) := by decide +kernel
theorem dX3_frauds_1 : decode cX3_frauds 1 = .ok (.getfield 48, 3) := by decide +kernel
theorem dX3_frauds_4 : decode cX3_frauds 4 = .ok (.ireturn, 1) := by decide +kernel
theorem dX3_turns_0 : decode cX3_turns 0 = .ok (.aload_n 0, 1) := by decide +kernel
theorem dX3_turns_1 : decode cX3_turns 1 = .ok (.getfield 51, 3) := by decide +kernel
theorem dX3_turns_4 : decode cX3_turns 4 = .ok (.ireturn, 1) := by decide +kernel
theorem dX3_isFalse_0 : decode cX3_isFalse 0 = .ok (.aload_n 0, 1) := by decide +kernel
theorem dX3_isFalse_1 : decode cX3_isFalse 1 = .ok (.iload_n 1, 1) := by decide +kernel
theorem dX3_isFalse_2 : decode cX3_isFalse 2 = .ok (.invokevirtual 58, 3) := by decide +kernel
theorem dX3_isFalse_5 : decode cX3_isFalse 5 = .ok (.aload_n 0, 1) := by decide +kernel
theorem dX3_isFalse_6 : decode cX3_isFalse 6 = .ok (.iload_n 1, 1) := by decide +kernel
theorem dX3_isFalse_7 : decode cX3_isFalse 7 = .ok (.invokevirtual 61, 3) := by decide +kernel
theorem dX3_isFalse_10 : decode cX3_isFalse 10 = .ok (.if_icmp .eq 7, 3) := by decide +kernel
theorem dX3_isFalse_13 : decode cX3_isFalse 13 = .ok (.iconst 1, 1) := by decide +kernel
theorem dX3_isFalse_14 : decode cX3_isFalse 14 = .ok (.goto 4, 3) := by decide +kernel
theorem dX3_isFalse_17 : decode cX3_isFalse 17 = .ok (.iconst 0, 1) := by decide +kernel
theorem dX3_isFalse_18 : decode cX3_isFalse 18 = .ok (.ireturn, 1) := by decide +kernel
theorem dX3_add_0 : decode cX3_add 0 = .ok (.aload_n 0, 1) := by decide +kernel
theorem dX3_add_1 : decode cX3_add 1 = .ok (.getfield 38, 3) := by decide +kernel
theorem dX3_add_4 : decode cX3_add 4 = .ok (.ifCond .lt 12, 3) := by decide +kernel
theorem dX3_add_7 : decode cX3_add 7 = .ok (.aload_n 0, 1) := by decide +kernel
theorem dX3_add_8 : decode cX3_add 8 = .ok (.getfield 38, 3) := by decide +kernel
theorem dX3_add_11 : decode cX3_add 11 = .ok (.bipush 12, 2) := by decide +kernel
theorem dX3_add_13 : decode cX3_add 13 = .ok (.if_icmp .lt 6, 3) := by decide +kernel
theorem dX3_add_16 : decode cX3_add 16 = .ok (.bipush (-3), 2) := by decide +kernel
theorem dX3_add_18 : decode cX3_add 18 = .ok (.ireturn, 1) := by decide +kernel
theorem dX3_add_19 : decode cX3_add 19 = .ok (.aload_n 0, 1) := by decide +kernel
theorem dX3_add_20 : decode cX3_add 20 = .ok (.getfield 38, 3) := by decide +kernel
theorem dX3_add_23 : decode cX3_add 23 = .ok (.istore_n 2, 1) := by decide +kernel
theorem dX3_add_24 : decode cX3_add 24 = .ok (.aload_n 0, 1) := by decide +kernel
theorem dX3_add_25 : decode cX3_add 25 = .ok (.getfield 18, 3) := by decide +kernel
theorem dX3_add_28 : decode cX3_add 28 = .ok (.iload_n 2, 1) := by decide +kernel
theorem dX3_add_29 : decode cX3_add 29 = .ok (.iload_n 1, 1) := by decide +kernel
theorem dX3_add_30 : decode cX3_add 30 = .ok (.iastore, 1) := by decide +kernel
theorem dX3_add_31 : decode cX3_add 31 = .ok (.aload_n 0, 1) := by decide +kernel
theorem dX3_add_32 : decode cX3_add 32 = .ok (.getfield 22, 3) := by decide +kernel
theorem dX3_add_35 : decode cX3_add 35 = .ok (.iload_n 2, 1) := by decide +kernel
theorem dX3_add_36 : decode cX3_add 36 = .ok (.iload_n 1, 1) := by decide +kernel
theorem dX3_add_37 : decode cX3_add 37 = .ok (.iastore, 1) := by decide +kernel
theorem dX3_add_38 : decode cX3_add 38 = .ok (.aload_n 0, 1) := by decide +kernel
theorem dX3_add_39 : decode cX3_add 39 = .ok (.getfield 25, 3) := by decide +kernel
theorem dX3_add_42 : decode cX3_add 42 = .ok (.iload_n 2, 1) := by decide +kernel
theorem dX3_add_43 : decode cX3_add 43 = .ok (.iconst 0, 1) := by decide +kernel
theorem dX3_add_44 : decode cX3_add 44 = .ok (.iastore, 1) := by decide +kernel
theorem dX3_add_45 : decode cX3_add 45 = .ok (.aload_n 0, 1) := by decide +kernel
theorem dX3_add_46 : decode cX3_add 46 = .ok (.dup, 1) := by decide +kernel
theorem dX3_add_47 : decode cX3_add 47 = .ok (.getfield 38, 3) := by decide +kernel
theorem dX3_add_50 : decode cX3_add 50 = .ok (.iconst 1, 1) := by decide +kernel
theorem dX3_add_51 : decode cX3_add 51 = .ok (.iadd, 1) := by decide +kernel
theorem dX3_add_52 : decode cX3_add 52 = .ok (.putfield 38, 3) := by decide +kernel
theorem dX3_add_55 : decode cX3_add 55 = .ok (.aload_n 0, 1) := by decide +kernel
theorem dX3_add_56 : decode cX3_add 56 = .ok (.dup, 1) := by decide +kernel
theorem dX3_add_57 : decode cX3_add 57 = .ok (.getfield 45, 3) := by decide +kernel
theorem dX3_add_60 : decode cX3_add 60 = .ok (.iload_n 1, 1) := by decide +kernel
theorem dX3_add_61 : decode cX3_add 61 = .ok (.invokestatic 63, 3) := by decide +kernel
theorem dX3_add_64 : decode cX3_add 64 = .ok (.iadd, 1) := by decide +kernel
theorem dX3_add_65 : decode cX3_add 65 = .ok (.putfield 45, 3) := by decide +kernel
theorem dX3_add_68 : decode cX3_add 68 = .ok (.iload_n 2, 1) := by decide +kernel
theorem dX3_add_69 : decode cX3_add 69 = .ok (.ireturn, 1) := by decide +kernel
theorem dX3_punchByRight_0 : decode cX3_punchByRight 0 = .ok (.aload_n 0, 1) := by decide +kernel
theorem dX3_punchByRight_1 : decode cX3_punchByRight 1 = .ok (.iload_n 1, 1) := by decide +kernel
theorem dX3_punchByRight_2 : decode cX3_punchByRight 2 = .ok (.invokevirtual 54, 3) := by decide +kernel
theorem dX3_punchByRight_5 : decode cX3_punchByRight 5 = .ok (.ifCond .eq 39, 3) := by decide +kernel
theorem dX3_punchByRight_8 : decode cX3_punchByRight 8 = .ok (.aload_n 0, 1) := by decide +kernel
theorem dX3_punchByRight_9 : decode cX3_punchByRight 9 = .ok (.getfield 18, 3) := by decide +kernel
theorem dX3_punchByRight_12 : decode cX3_punchByRight 12 = .ok (.iload_n 1, 1) := by decide +kernel
theorem dX3_punchByRight_13 : decode cX3_punchByRight 13 = .ok (.dup2, 1) := by decide +kernel
theorem dX3_punchByRight_14 : decode cX3_punchByRight 14 = .ok (.iaload, 1) := by decide +kernel
theorem dX3_punchByRight_15 : decode cX3_punchByRight 15 = .ok (.iload_n 2, 1) := by decide +kernel
theorem dX3_punchByRight_16 : decode cX3_punchByRight 16 = .ok (.invokestatic 68, 3) := by decide +kernel
theorem dX3_punchByRight_19 : decode cX3_punchByRight 19 = .ok (.ior, 1) := by decide +kernel
theorem dX3_punchByRight_20 : decode cX3_punchByRight 20 = .ok (.iastore, 1) := by decide +kernel
theorem dX3_punchByRight_21 : decode cX3_punchByRight 21 = .ok (.aload_n 0, 1) := by decide +kernel
theorem dX3_punchByRight_22 : decode cX3_punchByRight 22 = .ok (.getfield 22, 3) := by decide +kernel
theorem dX3_punchByRight_25 : decode cX3_punchByRight 25 = .ok (.iload_n 1, 1) := by decide +kernel
theorem dX3_punchByRight_26 : decode cX3_punchByRight 26 = .ok (.dup2, 1) := by decide +kernel
theorem dX3_punchByRight_27 : decode cX3_punchByRight 27 = .ok (.iaload, 1) := by decide +kernel
theorem dX3_punchByRight_28 : decode cX3_punchByRight 28 = .ok (.iload_n 2, 1) := by decide +kernel
theorem dX3_punchByRight_29 : decode cX3_punchByRight 29 = .ok (.invokestatic 68, 3) := by decide +kernel
theorem dX3_punchByRight_32 : decode cX3_punchByRight 32 = .ok (.ior, 1) := by decide +kernel
theorem dX3_punchByRight_33 : decode cX3_punchByRight 33 = .ok (.iastore, 1) := by decide +kernel
theorem dX3_punchByRight_34 : decode cX3_punchByRight 34 = .ok (.aload_n 0, 1) := by decide +kernel
theorem dX3_punchByRight_35 : decode cX3_punchByRight 35 = .ok (.dup, 1) := by decide +kernel
theorem dX3_punchByRight_36 : decode cX3_punchByRight 36 = .ok (.getfield 45, 3) := by decide +kernel
theorem dX3_punchByRight_39 : decode cX3_punchByRight 39 = .ok (.iconst 1, 1) := by decide +kernel
theorem dX3_punchByRight_40 : decode cX3_punchByRight 40 = .ok (.iadd, 1) := by decide +kernel
theorem dX3_punchByRight_41 : decode cX3_punchByRight 41 = .ok (.putfield 45, 3) := by decide +kernel
theorem dX3_punchByRight_44 : decode cX3_punchByRight 44 = .ok (.return_, 1) := by decide +kernel
theorem dX3_changeByFraud_0 : decode cX3_changeByFraud 0 = .ok (.aload_n 0, 1) := by decide +kernel
theorem dX3_changeByFraud_1 : decode cX3_changeByFraud 1 = .ok (.iload_n 1, 1) := by decide +kernel
theorem dX3_changeByFraud_2 : decode cX3_changeByFraud 2 = .ok (.invokevirtual 54, 3) := by decide +kernel
theorem dX3_changeByFraud_5 : decode cX3_changeByFraud 5 = .ok (.ifCond .eq 26, 3) := by decide +kernel
theorem dX3_changeByFraud_8 : decode cX3_changeByFraud 8 = .ok (.aload_n 0, 1) := by decide +kernel
theorem dX3_changeByFraud_9 : decode cX3_changeByFraud 9 = .ok (.getfield 18, 3) := by decide +kernel
theorem dX3_changeByFraud_12 : decode cX3_changeByFraud 12 = .ok (.iload_n 1, 1) := by decide +kernel
theorem dX3_changeByFraud_13 : decode cX3_changeByFraud 13 = .ok (.dup2, 1) := by decide +kernel
theorem dX3_changeByFraud_14 : decode cX3_changeByFraud 14 = .ok (.iaload, 1) := by decide +kernel
theorem dX3_changeByFraud_15 : decode cX3_changeByFraud 15 = .ok (.iload_n 2, 1) := by decide +kernel
theorem dX3_changeByFraud_16 : decode cX3_changeByFraud 16 = .ok (.invokestatic 68, 3) := by decide +kernel
theorem dX3_changeByFraud_19 : decode cX3_changeByFraud 19 = .ok (.ixor, 1) := by decide +kernel
theorem dX3_changeByFraud_20 : decode cX3_changeByFraud 20 = .ok (.iastore, 1) := by decide +kernel
theorem dX3_changeByFraud_21 : decode cX3_changeByFraud 21 = .ok (.aload_n 0, 1) := by decide +kernel
theorem dX3_changeByFraud_22 : decode cX3_changeByFraud 22 = .ok (.dup, 1) := by decide +kernel
theorem dX3_changeByFraud_23 : decode cX3_changeByFraud 23 = .ok (.getfield 48, 3) := by decide +kernel
theorem dX3_changeByFraud_26 : decode cX3_changeByFraud 26 = .ok (.iconst 1, 1) := by decide +kernel
theorem dX3_changeByFraud_27 : decode cX3_changeByFraud 27 = .ok (.iadd, 1) := by decide +kernel
theorem dX3_changeByFraud_28 : decode cX3_changeByFraud 28 = .ok (.putfield 48, 3) := by decide +kernel
theorem dX3_changeByFraud_31 : decode cX3_changeByFraud 31 = .ok (.return_, 1) := by decide +kernel
theorem dX3_makeRight_0 : decode cX3_makeRight 0 = .ok (.aload_n 0, 1) := by decide +kernel
theorem dX3_makeRight_1 : decode cX3_makeRight 1 = .ok (.iload_n 1, 1) := by decide +kernel
theorem dX3_makeRight_2 : decode cX3_makeRight 2 = .ok (.invokevirtual 54, 3) := by decide +kernel
theorem dX3_makeRight_5 : decode cX3_makeRight 5 = .ok (.ifCond .eq 15, 3) := by decide +kernel
theorem dX3_makeRight_8 : decode cX3_makeRight 8 = .ok (.aload_n 0, 1) := by decide +kernel
theorem dX3_makeRight_9 : decode cX3_makeRight 9 = .ok (.getfield 18, 3) := by decide +kernel
theorem dX3_makeRight_12 : decode cX3_makeRight 12 = .ok (.iload_n 1, 1) := by decide +kernel
theorem dX3_makeRight_13 : decode cX3_makeRight 13 = .ok (.aload_n 0, 1) := by decide +kernel
theorem dX3_makeRight_14 : decode cX3_makeRight 14 = .ok (.getfield 22, 3) := by decide +kernel
theorem dX3_makeRight_17 : decode cX3_makeRight 17 = .ok (.iload_n 1, 1) := by decide +kernel
theorem dX3_makeRight_18 : decode cX3_makeRight 18 = .ok (.iaload, 1) := by decide +kernel
theorem dX3_makeRight_19 : decode cX3_makeRight 19 = .ok (.iastore, 1) := by decide +kernel
theorem dX3_makeRight_20 : decode cX3_makeRight 20 = .ok (.return_, 1) := by decide +kernel
theorem dX3_changeStack_0 : decode cX3_changeStack 0 = .ok (.aload_n 0, 1) := by decide +kernel
theorem dX3_changeStack_1 : decode cX3_changeStack 1 = .ok (.dup, 1) := by decide +kernel
theorem dX3_changeStack_2 : decode cX3_changeStack 2 = .ok (.getfield 42, 3) := by decide +kernel
theorem dX3_changeStack_5 : decode cX3_changeStack 5 = .ok (.iload_n 1, 1) := by decide +kernel
theorem dX3_changeStack_6 : decode cX3_changeStack 6 = .ok (.invokestatic 68, 3) := by decide +kernel
theorem dX3_changeStack_9 : decode cX3_changeStack 9 = .ok (.ixor, 1) := by decide +kernel
theorem dX3_changeStack_10 : decode cX3_changeStack 10 = .ok (.putfield 42, 3) := by decide +kernel
theorem dX3_changeStack_13 : decode cX3_changeStack 13 = .ok (.return_, 1) := by decide +kernel
theorem dX3_turnTicket_0 : decode cX3_turnTicket 0 = .ok (.aload_n 0, 1) := by decide +kernel
theorem dX3_turnTicket_1 : decode cX3_turnTicket 1 = .ok (.iload_n 1, 1) := by decide +kernel
theorem dX3_turnTicket_2 : decode cX3_turnTicket 2 = .ok (.invokevirtual 54, 3) := by decide +kernel
theorem dX3_turnTicket_5 : decode cX3_turnTicket 5 = .ok (.ifCond .eq 63, 3) := by decide +kernel
theorem dX3_turnTicket_8 : decode cX3_turnTicket 8 = .ok (.aload_n 0, 1) := by decide +kernel
theorem dX3_turnTicket_9 : decode cX3_turnTicket 9 = .ok (.getfield 18, 3) := by decide +kernel
theorem dX3_turnTicket_12 : decode cX3_turnTicket 12 = .ok (.iload_n 1, 1) := by decide +kernel
theorem dX3_turnTicket_13 : decode cX3_turnTicket 13 = .ok (.aload_n 0, 1) := by decide +kernel
theorem dX3_turnTicket_14 : decode cX3_turnTicket 14 = .ok (.getfield 12, 3) := by decide +kernel
theorem dX3_turnTicket_17 : decode cX3_turnTicket 17 = .ok (.aload_n 0, 1) := by decide +kernel
theorem dX3_turnTicket_18 : decode cX3_turnTicket 18 = .ok (.getfield 18, 3) := by decide +kernel
theorem dX3_turnTicket_21 : decode cX3_turnTicket 21 = .ok (.iload_n 1, 1) := by decide +kernel
theorem dX3_turnTicket_22 : decode cX3_turnTicket 22 = .ok (.iaload, 1) := by decide +kernel
theorem dX3_turnTicket_23 : decode cX3_turnTicket 23 = .ok (.iload_n 2, 1) := by decide +kernel
theorem dX3_turnTicket_24 : decode cX3_turnTicket 24 = .ok (.invokevirtual 71, 3) := by decide +kernel
theorem dX3_turnTicket_27 : decode cX3_turnTicket 27 = .ok (.iastore, 1) := by decide +kernel
theorem dX3_turnTicket_28 : decode cX3_turnTicket 28 = .ok (.aload_n 0, 1) := by decide +kernel
theorem dX3_turnTicket_29 : decode cX3_turnTicket 29 = .ok (.getfield 22, 3) := by decide +kernel
theorem dX3_turnTicket_32 : decode cX3_turnTicket 32 = .ok (.iload_n 1, 1) := by decide +kernel
theorem dX3_turnTicket_33 : decode cX3_turnTicket 33 = .ok (.aload_n 0, 1) := by decide +kernel
theorem dX3_turnTicket_34 : decode cX3_turnTicket 34 = .ok (.getfield 12, 3) := by decide +kernel
theorem dX3_turnTicket_37 : decode cX3_turnTicket 37 = .ok (.aload_n 0, 1) := by decide +kernel
theorem dX3_turnTicket_38 : decode cX3_turnTicket 38 = .ok (.getfield 22, 3) := by decide +kernel
theorem dX3_turnTicket_41 : decode cX3_turnTicket 41 = .ok (.iload_n 1, 1) := by decide +kernel
theorem dX3_turnTicket_42 : decode cX3_turnTicket 42 = .ok (.iaload, 1) := by decide +kernel
theorem dX3_turnTicket_43 : decode cX3_turnTicket 43 = .ok (.iload_n 2, 1) := by decide +kernel
theorem dX3_turnTicket_44 : decode cX3_turnTicket 44 = .ok (.invokevirtual 71, 3) := by decide +kernel
theorem dX3_turnTicket_47 : decode cX3_turnTicket 47 = .ok (.iastore, 1) := by decide +kernel
theorem dX3_turnTicket_48 : decode cX3_turnTicket 48 = .ok (.aload_n 0, 1) := by decide +kernel
theorem dX3_turnTicket_49 : decode cX3_turnTicket 49 = .ok (.getfield 25, 3) := by decide +kernel
theorem dX3_turnTicket_52 : decode cX3_turnTicket 52 = .ok (.iload_n 1, 1) := by decide +kernel
theorem dX3_turnTicket_53 : decode cX3_turnTicket 53 = .ok (.dup2, 1) := by decide +kernel
theorem dX3_turnTicket_54 : decode cX3_turnTicket 54 = .ok (.iaload, 1) := by decide +kernel
theorem dX3_turnTicket_55 : decode cX3_turnTicket 55 = .ok (.iload_n 2, 1) := by decide +kernel
theorem dX3_turnTicket_56 : decode cX3_turnTicket 56 = .ok (.iadd, 1) := by decide +kernel
theorem dX3_turnTicket_57 : decode cX3_turnTicket 57 = .ok (.iastore, 1) := by decide +kernel
theorem dX3_turnTicket_58 : decode cX3_turnTicket 58 = .ok (.aload_n 0, 1) := by decide +kernel
theorem dX3_turnTicket_59 : decode cX3_turnTicket 59 = .ok (.dup, 1) := by decide +kernel
theorem dX3_turnTicket_60 : decode cX3_turnTicket 60 = .ok (.getfield 51, 3) := by decide +kernel
theorem dX3_turnTicket_63 : decode cX3_turnTicket 63 = .ok (.iconst 1, 1) := by decide +kernel
theorem dX3_turnTicket_64 : decode cX3_turnTicket 64 = .ok (.iadd, 1) := by decide +kernel
theorem dX3_turnTicket_65 : decode cX3_turnTicket 65 = .ok (.putfield 51, 3) := by decide +kernel
theorem dX3_turnTicket_68 : decode cX3_turnTicket 68 = .ok (.return_, 1) := by decide +kernel
theorem dX3_turnStacked_0 : decode cX3_turnStacked 0 = .ok (.iconst 0, 1) := by decide +kernel
theorem dX3_turnStacked_1 : decode cX3_turnStacked 1 = .ok (.istore_n 2, 1) := by decide +kernel
theorem dX3_turnStacked_2 : decode cX3_turnStacked 2 = .ok (.iload_n 2, 1) := by decide +kernel
theorem dX3_turnStacked_3 : decode cX3_turnStacked 3 = .ok (.bipush 12, 2) := by decide +kernel
theorem dX3_turnStacked_5 : decode cX3_turnStacked 5 = .ok (.if_icmp .ge 26, 3) := by decide +kernel
theorem dX3_turnStacked_8 : decode cX3_turnStacked 8 = .ok (.aload_n 0, 1) := by decide +kernel
theorem dX3_turnStacked_9 : decode cX3_turnStacked 9 = .ok (.getfield 42, 3) := by decide +kernel
theorem dX3_turnStacked_12 : decode cX3_turnStacked 12 = .ok (.iload_n 2, 1) := by decide +kernel
theorem dX3_turnStacked_13 : decode cX3_turnStacked 13 = .ok (.invokestatic 75, 3) := by decide +kernel
theorem dX3_turnStacked_16 : decode cX3_turnStacked 16 = .ok (.ifCond .eq 9, 3) := by decide +kernel
theorem dX3_turnStacked_19 : decode cX3_turnStacked 19 = .ok (.aload_n 0, 1) := by decide +kernel
theorem dX3_turnStacked_20 : decode cX3_turnStacked 20 = .ok (.iload_n 2, 1) := by decide +kernel
theorem dX3_turnStacked_21 : decode cX3_turnStacked 21 = .ok (.iload_n 1, 1) := by decide +kernel
theorem dX3_turnStacked_22 : decode cX3_turnStacked 22 = .ok (.invokevirtual 79, 3) := by decide +kernel
theorem dX3_turnStacked_25 : decode cX3_turnStacked 25 = .ok (.iinc 2 1, 3) := by decide +kernel
theorem dX3_turnStacked_28 : decode cX3_turnStacked 28 = .ok (.goto (-26), 3) := by decide +kernel
theorem dX3_turnStacked_31 : decode cX3_turnStacked 31 = .ok (.return_, 1) := by decide +kernel
theorem dX3_ticketsWithHole_0 : decode cX3_ticketsWithHole 0 = .ok (.iconst 0, 1) := by decide +kernel
theorem dX3_ticketsWithHole_1 : decode cX3_ticketsWithHole 1 = .ok (.istore_n 2, 1) := by decide +kernel
theorem dX3_ticketsWithHole_2 : decode cX3_ticketsWithHole 2 = .ok (.iconst 0, 1) := by decide +kernel
theorem dX3_ticketsWithHole_3 : decode cX3_ticketsWithHole 3 = .ok (.istore_n 3, 1) := by decide +kernel
theorem dX3_ticketsWithHole_4 : decode cX3_ticketsWithHole 4 = .ok (.iload_n 3, 1) := by decide +kernel
theorem dX3_ticketsWithHole_5 : decode cX3_ticketsWithHole 5 = .ok (.bipush 12, 2) := by decide +kernel
theorem dX3_ticketsWithHole_7 : decode cX3_ticketsWithHole 7 = .ok (.if_icmp .ge 28, 3) := by decide +kernel
theorem dX3_ticketsWithHole_10 : decode cX3_ticketsWithHole 10 = .ok (.aload_n 0, 1) := by decide +kernel
theorem dX3_ticketsWithHole_11 : decode cX3_ticketsWithHole 11 = .ok (.iload_n 3, 1) := by decide +kernel
theorem dX3_ticketsWithHole_12 : decode cX3_ticketsWithHole 12 = .ok (.invokevirtual 58, 3) := by decide +kernel
theorem dX3_ticketsWithHole_15 : decode cX3_ticketsWithHole 15 = .ok (.iload_n 1, 1) := by decide +kernel
theorem dX3_ticketsWithHole_16 : decode cX3_ticketsWithHole 16 = .ok (.invokestatic 75, 3) := by decide +kernel
theorem dX3_ticketsWithHole_19 : decode cX3_ticketsWithHole 19 = .ok (.ifCond .eq 10, 3) := by decide +kernel
theorem dX3_ticketsWithHole_22 : decode cX3_ticketsWithHole 22 = .ok (.iload_n 2, 1) := by decide +kernel
theorem dX3_ticketsWithHole_23 : decode cX3_ticketsWithHole 23 = .ok (.iload_n 3, 1) := by decide +kernel
theorem dX3_ticketsWithHole_24 : decode cX3_ticketsWithHole 24 = .ok (.invokestatic 68, 3) := by decide +kernel
theorem dX3_ticketsWithHole_27 : decode cX3_ticketsWithHole 27 = .ok (.ior, 1) := by decide +kernel
theorem dX3_ticketsWithHole_28 : decode cX3_ticketsWithHole 28 = .ok (.istore_n 2, 1) := by decide +kernel
theorem dX3_ticketsWithHole_29 : decode cX3_ticketsWithHole 29 = .ok (.iinc 3 1, 3) := by decide +kernel
theorem dX3_ticketsWithHole_32 : decode cX3_ticketsWithHole 32 = .ok (.goto (-28), 3) := by decide +kernel
theorem dX3_ticketsWithHole_35 : decode cX3_ticketsWithHole 35 = .ok (.iload_n 2, 1) := by decide +kernel
theorem dX3_ticketsWithHole_36 : decode cX3_ticketsWithHole 36 = .ok (.ireturn, 1) := by decide +kernel
theorem dX3_falseTickets_0 : decode cX3_falseTickets 0 = .ok (.iconst 0, 1) := by decide +kernel
theorem dX3_falseTickets_1 : decode cX3_falseTickets 1 = .ok (.istore_n 1, 1) := by decide +kernel
theorem dX3_falseTickets_2 : decode cX3_falseTickets 2 = .ok (.iconst 0, 1) := by decide +kernel
theorem dX3_falseTickets_3 : decode cX3_falseTickets 3 = .ok (.istore_n 2, 1) := by decide +kernel
theorem dX3_falseTickets_4 : decode cX3_falseTickets 4 = .ok (.iload_n 2, 1) := by decide +kernel
theorem dX3_falseTickets_5 : decode cX3_falseTickets 5 = .ok (.bipush 12, 2) := by decide +kernel
theorem dX3_falseTickets_7 : decode cX3_falseTickets 7 = .ok (.if_icmp .ge 20, 3) := by decide +kernel
theorem dX3_falseTickets_10 : decode cX3_falseTickets 10 = .ok (.aload_n 0, 1) := by decide +kernel
theorem dX3_falseTickets_11 : decode cX3_falseTickets 11 = .ok (.iload_n 2, 1) := by decide +kernel
theorem dX3_falseTickets_12 : decode cX3_falseTickets 12 = .ok (.invokevirtual 83, 3) := by decide +kernel
theorem dX3_falseTickets_15 : decode cX3_falseTickets 15 = .ok (.ifCond .eq 6, 3) := by decide +kernel
theorem dX3_falseTickets_18 : decode cX3_falseTickets 18 = .ok (.iinc 1 1, 3) := by decide +kernel
theorem dX3_falseTickets_21 : decode cX3_falseTickets 21 = .ok (.iinc 2 1, 3) := by decide +kernel
theorem dX3_falseTickets_24 : decode cX3_falseTickets 24 = .ok (.goto (-20), 3) := by decide +kernel
theorem dX3_falseTickets_27 : decode cX3_falseTickets 27 = .ok (.iload_n 1, 1) := by decide +kernel
theorem dX3_falseTickets_28 : decode cX3_falseTickets 28 = .ok (.ireturn, 1) := by decide +kernel
theorem dX3_allHoles_0 : decode cX3_allHoles 0 = .ok (.iconst 0, 1) := by decide +kernel
theorem dX3_allHoles_1 : decode cX3_allHoles 1 = .ok (.istore_n 1, 1) := by decide +kernel
theorem dX3_allHoles_2 : decode cX3_allHoles 2 = .ok (.iconst 0, 1) := by decide +kernel
theorem dX3_allHoles_3 : decode cX3_allHoles 3 = .ok (.istore_n 2, 1) := by decide +kernel
theorem dX3_allHoles_4 : decode cX3_allHoles 4 = .ok (.iload_n 2, 1) := by decide +kernel
theorem dX3_allHoles_5 : decode cX3_allHoles 5 = .ok (.bipush 12, 2) := by decide +kernel
theorem dX3_allHoles_7 : decode cX3_allHoles 7 = .ok (.if_icmp .ge 20, 3) := by decide +kernel
theorem dX3_allHoles_10 : decode cX3_allHoles 10 = .ok (.iload_n 1, 1) := by decide +kernel
theorem dX3_allHoles_11 : decode cX3_allHoles 11 = .ok (.aload_n 0, 1) := by decide +kernel
theorem dX3_allHoles_12 : decode cX3_allHoles 12 = .ok (.iload_n 2, 1) := by decide +kernel
theorem dX3_allHoles_13 : decode cX3_allHoles 13 = .ok (.invokevirtual 58, 3) := by decide +kernel
theorem dX3_allHoles_16 : decode cX3_allHoles 16 = .ok (.invokestatic 63, 3) := by decide +kernel
theorem dX3_allHoles_19 : decode cX3_allHoles 19 = .ok (.iadd, 1) := by decide +kernel
theorem dX3_allHoles_20 : decode cX3_allHoles 20 = .ok (.istore_n 1, 1) := by decide +kernel
theorem dX3_allHoles_21 : decode cX3_allHoles 21 = .ok (.iinc 2 1, 3) := by decide +kernel
theorem dX3_allHoles_24 : decode cX3_allHoles 24 = .ok (.goto (-20), 3) := by decide +kernel
theorem dX3_allHoles_27 : decode cX3_allHoles 27 = .ok (.iload_n 1, 1) := by decide +kernel
theorem dX3_allHoles_28 : decode cX3_allHoles 28 = .ok (.ireturn, 1) := by decide +kernel
theorem dX3_allDue_0 : decode cX3_allDue 0 = .ok (.iconst 0, 1) := by decide +kernel
theorem dX3_allDue_1 : decode cX3_allDue 1 = .ok (.istore_n 1, 1) := by decide +kernel
theorem dX3_allDue_2 : decode cX3_allDue 2 = .ok (.iconst 0, 1) := by decide +kernel
theorem dX3_allDue_3 : decode cX3_allDue 3 = .ok (.istore_n 2, 1) := by decide +kernel
theorem dX3_allDue_4 : decode cX3_allDue 4 = .ok (.iload_n 2, 1) := by decide +kernel
theorem dX3_allDue_5 : decode cX3_allDue 5 = .ok (.bipush 12, 2) := by decide +kernel
theorem dX3_allDue_7 : decode cX3_allDue 7 = .ok (.if_icmp .ge 20, 3) := by decide +kernel
theorem dX3_allDue_10 : decode cX3_allDue 10 = .ok (.iload_n 1, 1) := by decide +kernel
theorem dX3_allDue_11 : decode cX3_allDue 11 = .ok (.aload_n 0, 1) := by decide +kernel
theorem dX3_allDue_12 : decode cX3_allDue 12 = .ok (.iload_n 2, 1) := by decide +kernel
theorem dX3_allDue_13 : decode cX3_allDue 13 = .ok (.invokevirtual 61, 3) := by decide +kernel
theorem dX3_allDue_16 : decode cX3_allDue 16 = .ok (.invokestatic 63, 3) := by decide +kernel
theorem dX3_allDue_19 : decode cX3_allDue 19 = .ok (.iadd, 1) := by decide +kernel
theorem dX3_allDue_20 : decode cX3_allDue 20 = .ok (.istore_n 1, 1) := by decide +kernel
theorem dX3_allDue_21 : decode cX3_allDue 21 = .ok (.iinc 2 1, 3) := by decide +kernel
theorem dX3_allDue_24 : decode cX3_allDue 24 = .ok (.goto (-20), 3) := by decide +kernel
theorem dX3_allDue_27 : decode cX3_allDue 27 = .ok (.iload_n 1, 1) := by decide +kernel
theorem dX3_allDue_28 : decode cX3_allDue 28 = .ok (.ireturn, 1) := by decide +kernel
theorem dX3_kinOf_0 : decode cX3_kinOf 0 = .ok (.iconst 0, 1) := by decide +kernel
theorem dX3_kinOf_1 : decode cX3_kinOf 1 = .ok (.istore_n 2, 1) := by decide +kernel
theorem dX3_kinOf_2 : decode cX3_kinOf 2 = .ok (.aload_n 0, 1) := by decide +kernel
theorem dX3_kinOf_3 : decode cX3_kinOf 3 = .ok (.iload_n 1, 1) := by decide +kernel
theorem dX3_kinOf_4 : decode cX3_kinOf 4 = .ok (.invokevirtual 58, 3) := by decide +kernel
theorem dX3_kinOf_7 : decode cX3_kinOf 7 = .ok (.istore_n 3, 1) := by decide +kernel
theorem dX3_kinOf_8 : decode cX3_kinOf 8 = .ok (.aload_n 0, 1) := by decide +kernel
theorem dX3_kinOf_9 : decode cX3_kinOf 9 = .ok (.getfield 12, 3) := by decide +kernel
theorem dX3_kinOf_12 : decode cX3_kinOf 12 = .ok (.invokevirtual 86, 3) := by decide +kernel
theorem dX3_kinOf_15 : decode cX3_kinOf 15 = .ok (.istore 4, 2) := by decide +kernel
theorem dX3_kinOf_17 : decode cX3_kinOf 17 = .ok (.iconst 0, 1) := by decide +kernel
theorem dX3_kinOf_18 : decode cX3_kinOf 18 = .ok (.istore 5, 2) := by decide +kernel
theorem dX3_kinOf_20 : decode cX3_kinOf 20 = .ok (.iload 5, 2) := by decide +kernel
theorem dX3_kinOf_22 : decode cX3_kinOf 22 = .ok (.iload 4, 2) := by decide +kernel
theorem dX3_kinOf_24 : decode cX3_kinOf 24 = .ok (.if_icmp .ge 26, 3) := by decide +kernel
theorem dX3_kinOf_27 : decode cX3_kinOf 27 = .ok (.iload_n 2, 1) := by decide +kernel
theorem dX3_kinOf_28 : decode cX3_kinOf 28 = .ok (.aload_n 0, 1) := by decide +kernel
theorem dX3_kinOf_29 : decode cX3_kinOf 29 = .ok (.iload_n 3, 1) := by decide +kernel
theorem dX3_kinOf_30 : decode cX3_kinOf 30 = .ok (.invokevirtual 90, 3) := by decide +kernel
theorem dX3_kinOf_33 : decode cX3_kinOf 33 = .ok (.ior, 1) := by decide +kernel
theorem dX3_kinOf_34 : decode cX3_kinOf 34 = .ok (.istore_n 2, 1) := by decide +kernel
theorem dX3_kinOf_35 : decode cX3_kinOf 35 = .ok (.aload_n 0, 1) := by decide +kernel
theorem dX3_kinOf_36 : decode cX3_kinOf 36 = .ok (.getfield 12, 3) := by decide +kernel
theorem dX3_kinOf_39 : decode cX3_kinOf 39 = .ok (.iload_n 3, 1) := by decide +kernel
theorem dX3_kinOf_40 : decode cX3_kinOf 40 = .ok (.invokevirtual 93, 3) := by decide +kernel
theorem dX3_kinOf_43 : decode cX3_kinOf 43 = .ok (.istore_n 3, 1) := by decide +kernel
theorem dX3_kinOf_44 : decode cX3_kinOf 44 = .ok (.iinc 5 1, 3) := by decide +kernel
theorem dX3_kinOf_47 : decode cX3_kinOf 47 = .ok (.goto (-27), 3) := by decide +kernel
theorem dX3_kinOf_50 : decode cX3_kinOf 50 = .ok (.iload_n 2, 1) := by decide +kernel
theorem dX3_kinOf_51 : decode cX3_kinOf 51 = .ok (.ireturn, 1) := by decide +kernel
theorem dX3_ticketsWithHoles_0 : decode cX3_ticketsWithHoles 0 = .ok (.iconst 0, 1) := by decide +kernel
theorem dX3_ticketsWithHoles_1 : decode cX3_ticketsWithHoles 1 = .ok (.istore_n 2, 1) := by decide +kernel
theorem dX3_ticketsWithHoles_2 : decode cX3_ticketsWithHoles 2 = .ok (.iconst 0, 1) := by decide +kernel
theorem dX3_ticketsWithHoles_3 : decode cX3_ticketsWithHoles 3 = .ok (.istore_n 3, 1) := by decide +kernel
theorem dX3_ticketsWithHoles_4 : decode cX3_ticketsWithHoles 4 = .ok (.iload_n 3, 1) := by decide +kernel
theorem dX3_ticketsWithHoles_5 : decode cX3_ticketsWithHoles 5 = .ok (.bipush 12, 2) := by decide +kernel
theorem dX3_ticketsWithHoles_7 : decode cX3_ticketsWithHoles 7 = .ok (.if_icmp .ge 34, 3) := by decide +kernel
theorem dX3_ticketsWithHoles_10 : decode cX3_ticketsWithHoles 10 = .ok (.aload_n 0, 1) := by decide +kernel
theorem dX3_ticketsWithHoles_11 : decode cX3_ticketsWithHoles 11 = .ok (.iload_n 3, 1) := by decide +kernel
theorem dX3_ticketsWithHoles_12 : decode cX3_ticketsWithHoles 12 = .ok (.invokevirtual 54, 3) := by decide +kernel
theorem dX3_ticketsWithHoles_15 : decode cX3_ticketsWithHoles 15 = .ok (.ifCond .eq 20, 3) := by decide +kernel
theorem dX3_ticketsWithHoles_18 : decode cX3_ticketsWithHoles 18 = .ok (.aload_n 0, 1) := by decide +kernel
theorem dX3_ticketsWithHoles_19 : decode cX3_ticketsWithHoles 19 = .ok (.getfield 18, 3) := by decide +kernel
theorem dX3_ticketsWithHoles_22 : decode cX3_ticketsWithHoles 22 = .ok (.iload_n 3, 1) := by decide +kernel
theorem dX3_ticketsWithHoles_23 : decode cX3_ticketsWithHoles 23 = .ok (.iaload, 1) := by decide +kernel
theorem dX3_ticketsWithHoles_24 : decode cX3_ticketsWithHoles 24 = .ok (.iload_n 1, 1) := by decide +kernel
theorem dX3_ticketsWithHoles_25 : decode cX3_ticketsWithHoles 25 = .ok (.if_icmp .ne 10, 3) := by decide +kernel
theorem dX3_ticketsWithHoles_28 : decode cX3_ticketsWithHoles 28 = .ok (.iload_n 2, 1) := by decide +kernel
theorem dX3_ticketsWithHoles_29 : decode cX3_ticketsWithHoles 29 = .ok (.iload_n 3, 1) := by decide +kernel
theorem dX3_ticketsWithHoles_30 : decode cX3_ticketsWithHoles 30 = .ok (.invokestatic 68, 3) := by decide +kernel
theorem dX3_ticketsWithHoles_33 : decode cX3_ticketsWithHoles 33 = .ok (.ior, 1) := by decide +kernel
theorem dX3_ticketsWithHoles_34 : decode cX3_ticketsWithHoles 34 = .ok (.istore_n 2, 1) := by decide +kernel
theorem dX3_ticketsWithHoles_35 : decode cX3_ticketsWithHoles 35 = .ok (.iinc 3 1, 3) := by decide +kernel
theorem dX3_ticketsWithHoles_38 : decode cX3_ticketsWithHoles 38 = .ok (.goto (-34), 3) := by decide +kernel
theorem dX3_ticketsWithHoles_41 : decode cX3_ticketsWithHoles 41 = .ok (.iload_n 2, 1) := by decide +kernel
theorem dX3_ticketsWithHoles_42 : decode cX3_ticketsWithHoles 42 = .ok (.ireturn, 1) := by decide +kernel
theorem dX3_lightPlaces_0 : decode cX3_lightPlaces 0 = .ok (.aload_n 0, 1) := by decide +kernel
theorem dX3_lightPlaces_1 : decode cX3_lightPlaces 1 = .ok (.getfield 42, 3) := by decide +kernel
theorem dX3_lightPlaces_4 : decode cX3_lightPlaces 4 = .ok (.ifCond .ne 7, 3) := by decide +kernel
theorem dX3_lightPlaces_7 : decode cX3_lightPlaces 7 = .ok (.iconst 0, 1) := by decide +kernel
theorem dX3_lightPlaces_8 : decode cX3_lightPlaces 8 = .ok (.goto 11, 3) := by decide +kernel
theorem dX3_lightPlaces_11 : decode cX3_lightPlaces 11 = .ok (.aload_n 0, 1) := by decide +kernel
theorem dX3_lightPlaces_12 : decode cX3_lightPlaces 12 = .ok (.aload_n 0, 1) := by decide +kernel
theorem dX3_lightPlaces_13 : decode cX3_lightPlaces 13 = .ok (.getfield 42, 3) := by decide +kernel
theorem dX3_lightPlaces_16 : decode cX3_lightPlaces 16 = .ok (.invokevirtual 96, 3) := by decide +kernel
theorem dX3_lightPlaces_19 : decode cX3_lightPlaces 19 = .ok (.ireturn, 1) := by decide +kernel
theorem dX3_bestPower_0 : decode cX3_bestPower 0 = .ok (.aload_n 0, 1) := by decide +kernel
theorem dX3_bestPower_1 : decode cX3_bestPower 1 = .ok (.aload_n 0, 1) := by decide +kernel
theorem dX3_bestPower_2 : decode cX3_bestPower 2 = .ok (.getfield 42, 3) := by decide +kernel
theorem dX3_bestPower_5 : decode cX3_bestPower 5 = .ok (.iload_n 1, 1) := by decide +kernel
theorem dX3_bestPower_6 : decode cX3_bestPower 6 = .ok (.invokestatic 68, 3) := by decide +kernel
theorem dX3_bestPower_9 : decode cX3_bestPower 9 = .ok (.iconst (-1), 1) := by decide +kernel
theorem dX3_bestPower_10 : decode cX3_bestPower 10 = .ok (.ixor, 1) := by decide +kernel
theorem dX3_bestPower_11 : decode cX3_bestPower 11 = .ok (.iand, 1) := by decide +kernel
theorem dX3_bestPower_12 : decode cX3_bestPower 12 = .ok (.invokevirtual 96, 3) := by decide +kernel
theorem dX3_bestPower_15 : decode cX3_bestPower 15 = .ok (.istore_n 2, 1) := by decide +kernel
theorem dX3_bestPower_16 : decode cX3_bestPower 16 = .ok (.aload_n 0, 1) := by decide +kernel
theorem dX3_bestPower_17 : decode cX3_bestPower 17 = .ok (.iload_n 1, 1) := by decide +kernel
theorem dX3_bestPower_18 : decode cX3_bestPower 18 = .ok (.invokevirtual 58, 3) := by decide +kernel
theorem dX3_bestPower_21 : decode cX3_bestPower 21 = .ok (.istore_n 3, 1) := by decide +kernel
theorem dX3_bestPower_22 : decode cX3_bestPower 22 = .ok (.aload_n 0, 1) := by decide +kernel
theorem dX3_bestPower_23 : decode cX3_bestPower 23 = .ok (.getfield 12, 3) := by decide +kernel
theorem dX3_bestPower_26 : decode cX3_bestPower 26 = .ok (.invokevirtual 86, 3) := by decide +kernel
theorem dX3_bestPower_29 : decode cX3_bestPower 29 = .ok (.istore 4, 2) := by decide +kernel
theorem dX3_bestPower_31 : decode cX3_bestPower 31 = .ok (.iconst 0, 1) := by decide +kernel
theorem dX3_bestPower_32 : decode cX3_bestPower 32 = .ok (.istore 5, 2) := by decide +kernel
theorem dX3_bestPower_34 : decode cX3_bestPower 34 = .ok (.iload_n 3, 1) := by decide +kernel
theorem dX3_bestPower_35 : decode cX3_bestPower 35 = .ok (.iload_n 2, 1) := by decide +kernel
theorem dX3_bestPower_36 : decode cX3_bestPower 36 = .ok (.iand, 1) := by decide +kernel
theorem dX3_bestPower_37 : decode cX3_bestPower 37 = .ok (.invokestatic 63, 3) := by decide +kernel
theorem dX3_bestPower_40 : decode cX3_bestPower 40 = .ok (.istore 6, 2) := by decide +kernel
theorem dX3_bestPower_42 : decode cX3_bestPower 42 = .ok (.iconst 1, 1) := by decide +kernel
theorem dX3_bestPower_43 : decode cX3_bestPower 43 = .ok (.istore 7, 2) := by decide +kernel
theorem dX3_bestPower_45 : decode cX3_bestPower 45 = .ok (.iload 7, 2) := by decide +kernel
theorem dX3_bestPower_47 : decode cX3_bestPower 47 = .ok (.iload 4, 2) := by decide +kernel
theorem dX3_bestPower_49 : decode cX3_bestPower 49 = .ok (.if_icmp .ge 41, 3) := by decide +kernel
theorem dX3_bestPower_52 : decode cX3_bestPower 52 = .ok (.aload_n 0, 1) := by decide +kernel
theorem dX3_bestPower_53 : decode cX3_bestPower 53 = .ok (.getfield 12, 3) := by decide +kernel
theorem dX3_bestPower_56 : decode cX3_bestPower 56 = .ok (.iload_n 3, 1) := by decide +kernel
theorem dX3_bestPower_57 : decode cX3_bestPower 57 = .ok (.invokevirtual 93, 3) := by decide +kernel
theorem dX3_bestPower_60 : decode cX3_bestPower 60 = .ok (.istore_n 3, 1) := by decide +kernel
theorem dX3_bestPower_61 : decode cX3_bestPower 61 = .ok (.iload_n 3, 1) := by decide +kernel
theorem dX3_bestPower_62 : decode cX3_bestPower 62 = .ok (.iload_n 2, 1) := by decide +kernel
theorem dX3_bestPower_63 : decode cX3_bestPower 63 = .ok (.iand, 1) := by decide +kernel
theorem dX3_bestPower_64 : decode cX3_bestPower 64 = .ok (.invokestatic 63, 3) := by decide +kernel
theorem dX3_bestPower_67 : decode cX3_bestPower 67 = .ok (.istore 8, 2) := by decide +kernel
theorem dX3_bestPower_69 : decode cX3_bestPower 69 = .ok (.iload 8, 2) := by decide +kernel
theorem dX3_bestPower_71 : decode cX3_bestPower 71 = .ok (.iload 6, 2) := by decide +kernel
theorem dX3_bestPower_73 : decode cX3_bestPower 73 = .ok (.if_icmp .le 11, 3) := by decide +kernel
theorem dX3_bestPower_76 : decode cX3_bestPower 76 = .ok (.iload 8, 2) := by decide +kernel
theorem dX3_bestPower_78 : decode cX3_bestPower 78 = .ok (.istore 6, 2) := by decide +kernel
theorem dX3_bestPower_80 : decode cX3_bestPower 80 = .ok (.iload 7, 2) := by decide +kernel
theorem dX3_bestPower_82 : decode cX3_bestPower 82 = .ok (.istore 5, 2) := by decide +kernel
theorem dX3_bestPower_84 : decode cX3_bestPower 84 = .ok (.iinc 7 1, 3) := by decide +kernel
theorem dX3_bestPower_87 : decode cX3_bestPower 87 = .ok (.goto (-42), 3) := by decide +kernel
theorem dX3_bestPower_90 : decode cX3_bestPower 90 = .ok (.iload 5, 2) := by decide +kernel
theorem dX3_bestPower_92 : decode cX3_bestPower 92 = .ok (.ireturn, 1) := by decide +kernel
theorem dX3_mostLight_0 : decode cX3_mostLight 0 = .ok (.aload_n 0, 1) := by decide +kernel
theorem dX3_mostLight_1 : decode cX3_mostLight 1 = .ok (.aload_n 0, 1) := by decide +kernel
theorem dX3_mostLight_2 : decode cX3_mostLight 2 = .ok (.getfield 42, 3) := by decide +kernel
theorem dX3_mostLight_5 : decode cX3_mostLight 5 = .ok (.iload_n 1, 1) := by decide +kernel
theorem dX3_mostLight_6 : decode cX3_mostLight 6 = .ok (.invokestatic 68, 3) := by decide +kernel
theorem dX3_mostLight_9 : decode cX3_mostLight 9 = .ok (.iconst (-1), 1) := by decide +kernel
theorem dX3_mostLight_10 : decode cX3_mostLight 10 = .ok (.ixor, 1) := by decide +kernel
theorem dX3_mostLight_11 : decode cX3_mostLight 11 = .ok (.iand, 1) := by decide +kernel
theorem dX3_mostLight_12 : decode cX3_mostLight 12 = .ok (.invokevirtual 96, 3) := by decide +kernel
theorem dX3_mostLight_15 : decode cX3_mostLight 15 = .ok (.istore_n 2, 1) := by decide +kernel
theorem dX3_mostLight_16 : decode cX3_mostLight 16 = .ok (.aload_n 0, 1) := by decide +kernel
theorem dX3_mostLight_17 : decode cX3_mostLight 17 = .ok (.getfield 12, 3) := by decide +kernel
theorem dX3_mostLight_20 : decode cX3_mostLight 20 = .ok (.aload_n 0, 1) := by decide +kernel
theorem dX3_mostLight_21 : decode cX3_mostLight 21 = .ok (.iload_n 1, 1) := by decide +kernel
theorem dX3_mostLight_22 : decode cX3_mostLight 22 = .ok (.invokevirtual 58, 3) := by decide +kernel
theorem dX3_mostLight_25 : decode cX3_mostLight 25 = .ok (.aload_n 0, 1) := by decide +kernel
theorem dX3_mostLight_26 : decode cX3_mostLight 26 = .ok (.iload_n 1, 1) := by decide +kernel
theorem dX3_mostLight_27 : decode cX3_mostLight 27 = .ok (.invokevirtual 99, 3) := by decide +kernel
theorem dX3_mostLight_30 : decode cX3_mostLight 30 = .ok (.invokevirtual 71, 3) := by decide +kernel
theorem dX3_mostLight_33 : decode cX3_mostLight 33 = .ok (.iload_n 2, 1) := by decide +kernel
theorem dX3_mostLight_34 : decode cX3_mostLight 34 = .ok (.iand, 1) := by decide +kernel
theorem dX3_mostLight_35 : decode cX3_mostLight 35 = .ok (.invokestatic 63, 3) := by decide +kernel
theorem dX3_mostLight_38 : decode cX3_mostLight 38 = .ok (.ireturn, 1) := by decide +kernel
theorem dX3_commonHoles_0 : decode cX3_commonHoles 0 = .ok (.ldc 102, 2) := by decide +kernel
theorem dX3_commonHoles_2 : decode cX3_commonHoles 2 = .ok (.istore_n 2, 1) := by decide +kernel
theorem dX3_commonHoles_3 : decode cX3_commonHoles 3 = .ok (.iconst 0, 1) := by decide +kernel
theorem dX3_commonHoles_4 : decode cX3_commonHoles 4 = .ok (.istore_n 3, 1) := by decide +kernel
theorem dX3_commonHoles_5 : decode cX3_commonHoles 5 = .ok (.iload_n 3, 1) := by decide +kernel
theorem dX3_commonHoles_6 : decode cX3_commonHoles 6 = .ok (.bipush 12, 2) := by decide +kernel
theorem dX3_commonHoles_8 : decode cX3_commonHoles 8 = .ok (.if_icmp .ge 25, 3) := by decide +kernel
theorem dX3_commonHoles_11 : decode cX3_commonHoles 11 = .ok (.iload_n 1, 1) := by decide +kernel
theorem dX3_commonHoles_12 : decode cX3_commonHoles 12 = .ok (.iload_n 3, 1) := by decide +kernel
theorem dX3_commonHoles_13 : decode cX3_commonHoles 13 = .ok (.invokestatic 75, 3) := by decide +kernel
theorem dX3_commonHoles_16 : decode cX3_commonHoles 16 = .ok (.ifCond .eq 11, 3) := by decide +kernel
theorem dX3_commonHoles_19 : decode cX3_commonHoles 19 = .ok (.iload_n 2, 1) := by decide +kernel
theorem dX3_commonHoles_20 : decode cX3_commonHoles 20 = .ok (.aload_n 0, 1) := by decide +kernel
theorem dX3_commonHoles_21 : decode cX3_commonHoles 21 = .ok (.iload_n 3, 1) := by decide +kernel
theorem dX3_commonHoles_22 : decode cX3_commonHoles 22 = .ok (.invokevirtual 58, 3) := by decide +kernel
theorem dX3_commonHoles_25 : decode cX3_commonHoles 25 = .ok (.iand, 1) := by decide +kernel
theorem dX3_commonHoles_26 : decode cX3_commonHoles 26 = .ok (.istore_n 2, 1) := by decide +kernel
theorem dX3_commonHoles_27 : decode cX3_commonHoles 27 = .ok (.iinc 3 1, 3) := by decide +kernel
theorem dX3_commonHoles_30 : decode cX3_commonHoles 30 = .ok (.goto (-25), 3) := by decide +kernel
theorem dX3_commonHoles_33 : decode cX3_commonHoles 33 = .ok (.iload_n 2, 1) := by decide +kernel
theorem dX3_commonHoles_34 : decode cX3_commonHoles 34 = .ok (.ireturn, 1) := by decide +kernel
theorem dX4_init_0 : decode cX4_init 0 = .ok (.aload_n 0, 1) := by decide +kernel
theorem dX4_init_1 : decode cX4_init 1 = .ok (.invokespecial 1, 3) := by decide +kernel
theorem dX4_init_4 : decode cX4_init 4 = .ok (.aload_n 0, 1) := by decide +kernel
theorem dX4_init_5 : decode cX4_init 5 = .ok (.new 7, 3) := by decide +kernel
theorem dX4_init_8 : decode cX4_init 8 = .ok (.dup, 1) := by decide +kernel
theorem dX4_init_9 : decode cX4_init 9 = .ok (.invokespecial 9, 3) := by decide +kernel
theorem dX4_init_12 : decode cX4_init 12 = .ok (.putfield 10, 3) := by decide +kernel
theorem dX4_init_15 : decode cX4_init 15 = .ok (.aload_n 0, 1) := by decide +kernel
theorem dX4_init_16 : decode cX4_init 16 = .ok (.new 7, 3) := by decide +kernel
theorem dX4_init_19 : decode cX4_init 19 = .ok (.dup, 1) := by decide +kernel
theorem dX4_init_20 : decode cX4_init 20 = .ok (.invokespecial 9, 3) := by decide +kernel
theorem dX4_init_23 : decode cX4_init 23 = .ok (.putfield 16, 3) := by decide +kernel
theorem dX4_init_26 : decode cX4_init 26 = .ok (.aload_n 0, 1) := by decide +kernel
theorem dX4_init_27 : decode cX4_init 27 = .ok (.iconst 0, 1) := by decide +kernel
theorem dX4_init_28 : decode cX4_init 28 = .ok (.putfield 19, 3) := by decide +kernel
theorem dX4_init_31 : decode cX4_init 31 = .ok (.aload_n 0, 1) := by decide +kernel
theorem dX4_init_32 : decode cX4_init 32 = .ok (.new 23, 3) := by decide +kernel
theorem dX4_init_35 : decode cX4_init 35 = .ok (.dup, 1) := by decide +kernel
theorem dX4_init_36 : decode cX4_init 36 = .ok (.invokespecial 25, 3) := by decide +kernel
theorem dX4_init_39 : decode cX4_init 39 = .ok (.putfield 26, 3) := by decide +kernel
theorem dX4_init_42 : decode cX4_init 42 = .ok (.aload_n 0, 1) := by decide +kernel
theorem dX4_init_43 : decode cX4_init 43 = .ok (.new 30, 3) := by decide +kernel
theorem dX4_init_46 : decode cX4_init 46 = .ok (.dup, 1) := by decide +kernel
theorem dX4_init_47 : decode cX4_init 47 = .ok (.invokespecial 32, 3) := by decide +kernel
theorem dX4_init_50 : decode cX4_init 50 = .ok (.putfield 33, 3) := by decide +kernel
theorem dX4_init_53 : decode cX4_init 53 = .ok (.return_, 1) := by decide +kernel
theorem dX4_exchange_0 : decode cX4_exchange 0 = .ok (.iload_n 1, 1) := by decide +kernel
theorem dX4_exchange_1 : decode cX4_exchange 1 = .ok (.invokestatic 37, 3) := by decide +kernel
theorem dX4_exchange_4 : decode cX4_exchange 4 = .ok (.ifCond .eq 10, 3) := by decide +kernel
theorem dX4_exchange_7 : decode cX4_exchange 7 = .ok (.iload_n 2, 1) := by decide +kernel
theorem dX4_exchange_8 : decode cX4_exchange 8 = .ok (.invokestatic 37, 3) := by decide +kernel
theorem dX4_exchange_11 : decode cX4_exchange 11 = .ok (.ifCond .ne 5, 3) := by decide +kernel
theorem dX4_exchange_14 : decode cX4_exchange 14 = .ok (.iconst (-1), 1) := by decide +kernel
theorem dX4_exchange_15 : decode cX4_exchange 15 = .ok (.ireturn, 1) := by decide +kernel
theorem dX4_exchange_16 : decode cX4_exchange 16 = .ok (.iload_n 1, 1) := by decide +kernel
theorem dX4_exchange_17 : decode cX4_exchange 17 = .ok (.iload_n 2, 1) := by decide +kernel
theorem dX4_exchange_18 : decode cX4_exchange 18 = .ok (.if_icmp .ne 6, 3) := by decide +kernel
theorem dX4_exchange_21 : decode cX4_exchange 21 = .ok (.bipush (-5), 2) := by decide +kernel
theorem dX4_exchange_23 : decode cX4_exchange 23 = .ok (.ireturn, 1) := by decide +kernel
theorem dX4_exchange_24 : decode cX4_exchange 24 = .ok (.aload_n 0, 1) := by decide +kernel
theorem dX4_exchange_25 : decode cX4_exchange 25 = .ok (.getfield 26, 3) := by decide +kernel
theorem dX4_exchange_28 : decode cX4_exchange 28 = .ok (.aload_n 0, 1) := by decide +kernel
theorem dX4_exchange_29 : decode cX4_exchange 29 = .ok (.getfield 10, 3) := by decide +kernel
theorem dX4_exchange_32 : decode cX4_exchange 32 = .ok (.invokevirtual 41, 3) := by decide +kernel
theorem dX4_exchange_35 : decode cX4_exchange 35 = .ok (.aload_n 0, 1) := by decide +kernel
theorem dX4_exchange_36 : decode cX4_exchange 36 = .ok (.getfield 10, 3) := by decide +kernel
theorem dX4_exchange_39 : decode cX4_exchange 39 = .ok (.getfield 45, 3) := by decide +kernel
theorem dX4_exchange_42 : decode cX4_exchange 42 = .ok (.iload_n 1, 1) := by decide +kernel
theorem dX4_exchange_43 : decode cX4_exchange 43 = .ok (.iload_n 2, 1) := by decide +kernel
theorem dX4_exchange_44 : decode cX4_exchange 44 = .ok (.invokevirtual 49, 3) := by decide +kernel
theorem dX4_exchange_47 : decode cX4_exchange 47 = .ok (.aload_n 0, 1) := by decide +kernel
theorem dX4_exchange_48 : decode cX4_exchange 48 = .ok (.getfield 10, 3) := by decide +kernel
theorem dX4_exchange_51 : decode cX4_exchange 51 = .ok (.getfield 45, 3) := by decide +kernel
theorem dX4_exchange_54 : decode cX4_exchange 54 = .ok (.invokevirtual 55, 3) := by decide +kernel
theorem dX4_exchange_57 : decode cX4_exchange 57 = .ok (.ireturn, 1) := by decide +kernel
theorem dX4_reverse_0 : decode cX4_reverse 0 = .ok (.aload_n 0, 1) := by decide +kernel
theorem dX4_reverse_1 : decode cX4_reverse 1 = .ok (.getfield 10, 3) := by decide +kernel
theorem dX4_reverse_4 : decode cX4_reverse 4 = .ok (.getfield 45, 3) := by decide +kernel
theorem dX4_reverse_7 : decode cX4_reverse 7 = .ok (.invokevirtual 55, 3) := by decide +kernel
theorem dX4_reverse_10 : decode cX4_reverse 10 = .ok (.istore_n 1, 1) := by decide +kernel
theorem dX4_reverse_11 : decode cX4_reverse 11 = .ok (.iload_n 1, 1) := by decide +kernel
theorem dX4_reverse_12 : decode cX4_reverse 12 = .ok (.iconst 2, 1) := by decide +kernel
theorem dX4_reverse_13 : decode cX4_reverse 13 = .ok (.if_icmp .gt 6, 3) := by decide +kernel
theorem dX4_reverse_16 : decode cX4_reverse 16 = .ok (.bipush (-5), 2) := by decide +kernel
theorem dX4_reverse_18 : decode cX4_reverse 18 = .ok (.ireturn, 1) := by decide +kernel
theorem dX4_reverse_19 : decode cX4_reverse 19 = .ok (.aload_n 0, 1) := by decide +kernel
theorem dX4_reverse_20 : decode cX4_reverse 20 = .ok (.getfield 26, 3) := by decide +kernel
theorem dX4_reverse_23 : decode cX4_reverse 23 = .ok (.aload_n 0, 1) := by decide +kernel
theorem dX4_reverse_24 : decode cX4_reverse 24 = .ok (.getfield 10, 3) := by decide +kernel
theorem dX4_reverse_27 : decode cX4_reverse 27 = .ok (.invokevirtual 41, 3) := by decide +kernel
theorem dX4_reverse_30 : decode cX4_reverse 30 = .ok (.aload_n 0, 1) := by decide +kernel
theorem dX4_reverse_31 : decode cX4_reverse 31 = .ok (.getfield 10, 3) := by decide +kernel
theorem dX4_reverse_34 : decode cX4_reverse 34 = .ok (.getfield 45, 3) := by decide +kernel
theorem dX4_reverse_37 : decode cX4_reverse 37 = .ok (.invokevirtual 59, 3) := by decide +kernel
theorem dX4_reverse_40 : decode cX4_reverse 40 = .ok (.iload_n 1, 1) := by decide +kernel
theorem dX4_reverse_41 : decode cX4_reverse 41 = .ok (.ireturn, 1) := by decide +kernel
theorem dX4_readMove_0 : decode cX4_readMove 0 = .ok (.aload_n 0, 1) := by decide +kernel
theorem dX4_readMove_1 : decode cX4_readMove 1 = .ok (.getfield 33, 3) := by decide +kernel
theorem dX4_readMove_4 : decode cX4_readMove 4 = .ok (.invokevirtual 62, 3) := by decide +kernel
theorem dX4_readMove_7 : decode cX4_readMove 7 = .ok (.aload_n 0, 1) := by decide +kernel
theorem dX4_readMove_8 : decode cX4_readMove 8 = .ok (.getfield 33, 3) := by decide +kernel
theorem dX4_readMove_11 : decode cX4_readMove 11 = .ok (.invokevirtual 65, 3) := by decide +kernel
theorem dX4_readMove_14 : decode cX4_readMove 14 = .ok (.ifCond .eq 14, 3) := by decide +kernel
theorem dX4_readMove_17 : decode cX4_readMove 17 = .ok (.bipush (-100), 2) := by decide +kernel
theorem dX4_readMove_19 : decode cX4_readMove 19 = .ok (.aload_n 0, 1) := by decide +kernel
theorem dX4_readMove_20 : decode cX4_readMove 20 = .ok (.getfield 33, 3) := by decide +kernel
theorem dX4_readMove_23 : decode cX4_readMove 23 = .ok (.invokevirtual 68, 3) := by decide +kernel
theorem dX4_readMove_26 : decode cX4_readMove 26 = .ok (.isub, 1) := by decide +kernel
theorem dX4_readMove_27 : decode cX4_readMove 27 = .ok (.ireturn, 1) := by decide +kernel
theorem dX4_readMove_28 : decode cX4_readMove 28 = .ok (.aload_n 0, 1) := by decide +kernel
theorem dX4_readMove_29 : decode cX4_readMove 29 = .ok (.getfield 26, 3) := by decide +kernel
theorem dX4_readMove_32 : decode cX4_readMove 32 = .ok (.aload_n 0, 1) := by decide +kernel
theorem dX4_readMove_33 : decode cX4_readMove 33 = .ok (.getfield 10, 3) := by decide +kernel
theorem dX4_readMove_36 : decode cX4_readMove 36 = .ok (.invokevirtual 41, 3) := by decide +kernel
theorem dX4_readMove_39 : decode cX4_readMove 39 = .ok (.aload_n 0, 1) := by decide +kernel
theorem dX4_readMove_40 : decode cX4_readMove 40 = .ok (.getfield 10, 3) := by decide +kernel
theorem dX4_readMove_43 : decode cX4_readMove 43 = .ok (.getfield 45, 3) := by decide +kernel
theorem dX4_readMove_46 : decode cX4_readMove 46 = .ok (.aload_n 0, 1) := by decide +kernel
theorem dX4_readMove_47 : decode cX4_readMove 47 = .ok (.getfield 33, 3) := by decide +kernel
theorem dX4_readMove_50 : decode cX4_readMove 50 = .ok (.invokevirtual 71, 3) := by decide +kernel
theorem dX4_readMove_53 : decode cX4_readMove 53 = .ok (.aload_n 0, 1) := by decide +kernel
theorem dX4_readMove_54 : decode cX4_readMove 54 = .ok (.getfield 10, 3) := by decide +kernel
theorem dX4_readMove_57 : decode cX4_readMove 57 = .ok (.getfield 45, 3) := by decide +kernel
theorem dX4_readMove_60 : decode cX4_readMove 60 = .ok (.invokevirtual 55, 3) := by decide +kernel
theorem dX4_readMove_63 : decode cX4_readMove 63 = .ok (.ireturn, 1) := by decide +kernel
theorem dX4_sell_0 : decode cX4_sell 0 = .ok (.iload_n 1, 1) := by decide +kernel
theorem dX4_sell_1 : decode cX4_sell 1 = .ok (.ifCond .lt 9, 3) := by decide +kernel
theorem dX4_sell_4 : decode cX4_sell 4 = .ok (.iload_n 1, 1) := by decide +kernel
theorem dX4_sell_5 : decode cX4_sell 5 = .ok (.ldc 75, 2) := by decide +kernel
theorem dX4_sell_7 : decode cX4_sell 7 = .ok (.if_icmp .le 6, 3) := by decide +kernel
theorem dX4_sell_10 : decode cX4_sell 10 = .ok (.bipush (-2), 2) := by decide +kernel
theorem dX4_sell_12 : decode cX4_sell 12 = .ok (.ireturn, 1) := by decide +kernel
theorem dX4_sell_13 : decode cX4_sell 13 = .ok (.aload_n 0, 1) := by decide +kernel
theorem dX4_sell_14 : decode cX4_sell 14 = .ok (.getfield 10, 3) := by decide +kernel
theorem dX4_sell_17 : decode cX4_sell 17 = .ok (.invokevirtual 76, 3) := by decide +kernel
theorem dX4_sell_20 : decode cX4_sell 20 = .ok (.bipush 12, 2) := by decide +kernel
theorem dX4_sell_22 : decode cX4_sell 22 = .ok (.if_icmp .lt 6, 3) := by decide +kernel
theorem dX4_sell_25 : decode cX4_sell 25 = .ok (.bipush (-3), 2) := by decide +kernel
theorem dX4_sell_27 : decode cX4_sell 27 = .ok (.ireturn, 1) := by decide +kernel
theorem dX4_sell_28 : decode cX4_sell 28 = .ok (.aload_n 0, 1) := by decide +kernel
theorem dX4_sell_29 : decode cX4_sell 29 = .ok (.getfield 26, 3) := by decide +kernel
theorem dX4_sell_32 : decode cX4_sell 32 = .ok (.aload_n 0, 1) := by decide +kernel
theorem dX4_sell_33 : decode cX4_sell 33 = .ok (.getfield 10, 3) := by decide +kernel
theorem dX4_sell_36 : decode cX4_sell 36 = .ok (.invokevirtual 41, 3) := by decide +kernel
theorem dX4_sell_39 : decode cX4_sell 39 = .ok (.aload_n 0, 1) := by decide +kernel
theorem dX4_sell_40 : decode cX4_sell 40 = .ok (.getfield 10, 3) := by decide +kernel
theorem dX4_sell_43 : decode cX4_sell 43 = .ok (.iload_n 1, 1) := by decide +kernel
theorem dX4_sell_44 : decode cX4_sell 44 = .ok (.invokevirtual 79, 3) := by decide +kernel
theorem dX4_sell_47 : decode cX4_sell 47 = .ok (.ireturn, 1) := by decide +kernel
theorem dX4_punch_0 : decode cX4_punch 0 = .ok (.aload_n 0, 1) := by decide +kernel
theorem dX4_punch_1 : decode cX4_punch 1 = .ok (.getfield 10, 3) := by decide +kernel
theorem dX4_punch_4 : decode cX4_punch 4 = .ok (.iload_n 1, 1) := by decide +kernel
theorem dX4_punch_5 : decode cX4_punch 5 = .ok (.invokevirtual 83, 3) := by decide +kernel
theorem dX4_punch_8 : decode cX4_punch 8 = .ok (.ifCond .eq 10, 3) := by decide +kernel
theorem dX4_punch_11 : decode cX4_punch 11 = .ok (.iload_n 2, 1) := by decide +kernel
theorem dX4_punch_12 : decode cX4_punch 12 = .ok (.invokestatic 37, 3) := by decide +kernel
theorem dX4_punch_15 : decode cX4_punch 15 = .ok (.ifCond .ne 5, 3) := by decide +kernel
theorem dX4_punch_18 : decode cX4_punch 18 = .ok (.iconst (-1), 1) := by decide +kernel
theorem dX4_punch_19 : decode cX4_punch 19 = .ok (.ireturn, 1) := by decide +kernel
theorem dX4_punch_20 : decode cX4_punch 20 = .ok (.aload_n 0, 1) := by decide +kernel
theorem dX4_punch_21 : decode cX4_punch 21 = .ok (.getfield 10, 3) := by decide +kernel
theorem dX4_punch_24 : decode cX4_punch 24 = .ok (.iload_n 1, 1) := by decide +kernel
theorem dX4_punch_25 : decode cX4_punch 25 = .ok (.invokevirtual 86, 3) := by decide +kernel
theorem dX4_punch_28 : decode cX4_punch 28 = .ok (.aload_n 0, 1) := by decide +kernel
theorem dX4_punch_29 : decode cX4_punch 29 = .ok (.getfield 10, 3) := by decide +kernel
theorem dX4_punch_32 : decode cX4_punch 32 = .ok (.iload_n 1, 1) := by decide +kernel
theorem dX4_punch_33 : decode cX4_punch 33 = .ok (.invokevirtual 89, 3) := by decide +kernel
theorem dX4_punch_36 : decode cX4_punch 36 = .ok (.iand, 1) := by decide +kernel
theorem dX4_punch_37 : decode cX4_punch 37 = .ok (.iload_n 2, 1) := by decide +kernel
theorem dX4_punch_38 : decode cX4_punch 38 = .ok (.invokestatic 92, 3) := by decide +kernel
theorem dX4_punch_41 : decode cX4_punch 41 = .ok (.ifCond .eq 6, 3) := by decide +kernel
theorem dX4_punch_44 : decode cX4_punch 44 = .ok (.bipush (-5), 2) := by decide +kernel
theorem dX4_punch_46 : decode cX4_punch 46 = .ok (.ireturn, 1) := by decide +kernel
theorem dX4_punch_47 : decode cX4_punch 47 = .ok (.aload_n 0, 1) := by decide +kernel
theorem dX4_punch_48 : decode cX4_punch 48 = .ok (.getfield 26, 3) := by decide +kernel
theorem dX4_punch_51 : decode cX4_punch 51 = .ok (.aload_n 0, 1) := by decide +kernel
theorem dX4_punch_52 : decode cX4_punch 52 = .ok (.getfield 10, 3) := by decide +kernel
theorem dX4_punch_55 : decode cX4_punch 55 = .ok (.invokevirtual 41, 3) := by decide +kernel
theorem dX4_punch_58 : decode cX4_punch 58 = .ok (.aload_n 0, 1) := by decide +kernel
theorem dX4_punch_59 : decode cX4_punch 59 = .ok (.getfield 10, 3) := by decide +kernel
theorem dX4_punch_62 : decode cX4_punch 62 = .ok (.iload_n 1, 1) := by decide +kernel
theorem dX4_punch_63 : decode cX4_punch 63 = .ok (.iload_n 2, 1) := by decide +kernel
theorem dX4_punch_64 : decode cX4_punch 64 = .ok (.invokevirtual 96, 3) := by decide +kernel
theorem dX4_punch_67 : decode cX4_punch 67 = .ok (.aload_n 0, 1) := by decide +kernel
theorem dX4_punch_68 : decode cX4_punch 68 = .ok (.getfield 10, 3) := by decide +kernel
theorem dX4_punch_71 : decode cX4_punch 71 = .ok (.iload_n 1, 1) := by decide +kernel
theorem dX4_punch_72 : decode cX4_punch 72 = .ok (.invokevirtual 86, 3) := by decide +kernel
theorem dX4_punch_75 : decode cX4_punch 75 = .ok (.invokestatic 99, 3) := by decide +kernel
theorem dX4_punch_78 : decode cX4_punch 78 = .ok (.ireturn, 1) := by decide +kernel
theorem dX4_forge_0 : decode cX4_forge 0 = .ok (.aload_n 0, 1) := by decide +kernel
theorem dX4_forge_1 : decode cX4_forge 1 = .ok (.getfield 10, 3) := by decide +kernel
theorem dX4_forge_4 : decode cX4_forge 4 = .ok (.iload_n 1, 1) := by decide +kernel
theorem dX4_forge_5 : decode cX4_forge 5 = .ok (.invokevirtual 83, 3) := by decide +kernel
theorem dX4_forge_8 : decode cX4_forge 8 = .ok (.ifCond .eq 10, 3) := by decide +kernel
theorem dX4_forge_11 : decode cX4_forge 11 = .ok (.iload_n 2, 1) := by decide +kernel
theorem dX4_forge_12 : decode cX4_forge 12 = .ok (.invokestatic 37, 3) := by decide +kernel
theorem dX4_forge_15 : decode cX4_forge 15 = .ok (.ifCond .ne 5, 3) := by decide +kernel
theorem dX4_forge_18 : decode cX4_forge 18 = .ok (.iconst (-1), 1) := by decide +kernel
theorem dX4_forge_19 : decode cX4_forge 19 = .ok (.ireturn, 1) := by decide +kernel
theorem dX4_forge_20 : decode cX4_forge 20 = .ok (.aload_n 0, 1) := by decide +kernel
theorem dX4_forge_21 : decode cX4_forge 21 = .ok (.getfield 10, 3) := by decide +kernel
theorem dX4_forge_24 : decode cX4_forge 24 = .ok (.iload_n 1, 1) := by decide +kernel
theorem dX4_forge_25 : decode cX4_forge 25 = .ok (.invokevirtual 86, 3) := by decide +kernel
theorem dX4_forge_28 : decode cX4_forge 28 = .ok (.iload_n 2, 1) := by decide +kernel
theorem dX4_forge_29 : decode cX4_forge 29 = .ok (.invokestatic 92, 3) := by decide +kernel
theorem dX4_forge_32 : decode cX4_forge 32 = .ok (.iload_n 3, 1) := by decide +kernel
theorem dX4_forge_33 : decode cX4_forge 33 = .ok (.if_icmp .ne 6, 3) := by decide +kernel
theorem dX4_forge_36 : decode cX4_forge 36 = .ok (.bipush (-5), 2) := by decide +kernel
theorem dX4_forge_38 : decode cX4_forge 38 = .ok (.ireturn, 1) := by decide +kernel
theorem dX4_forge_39 : decode cX4_forge 39 = .ok (.aload_n 0, 1) := by decide +kernel
theorem dX4_forge_40 : decode cX4_forge 40 = .ok (.getfield 26, 3) := by decide +kernel
theorem dX4_forge_43 : decode cX4_forge 43 = .ok (.aload_n 0, 1) := by decide +kernel
theorem dX4_forge_44 : decode cX4_forge 44 = .ok (.getfield 10, 3) := by decide +kernel
theorem dX4_forge_47 : decode cX4_forge 47 = .ok (.invokevirtual 41, 3) := by decide +kernel
theorem dX4_forge_50 : decode cX4_forge 50 = .ok (.aload_n 0, 1) := by decide +kernel
theorem dX4_forge_51 : decode cX4_forge 51 = .ok (.getfield 10, 3) := by decide +kernel
theorem dX4_forge_54 : decode cX4_forge 54 = .ok (.iload_n 1, 1) := by decide +kernel
theorem dX4_forge_55 : decode cX4_forge 55 = .ok (.iload_n 2, 1) := by decide +kernel
theorem dX4_forge_56 : decode cX4_forge 56 = .ok (.invokevirtual 104, 3) := by decide +kernel
theorem dX4_forge_59 : decode cX4_forge 59 = .ok (.aload_n 0, 1) := by decide +kernel
theorem dX4_forge_60 : decode cX4_forge 60 = .ok (.getfield 10, 3) := by decide +kernel
theorem dX4_forge_63 : decode cX4_forge 63 = .ok (.iload_n 1, 1) := by decide +kernel
theorem dX4_forge_64 : decode cX4_forge 64 = .ok (.invokevirtual 107, 3) := by decide +kernel
theorem dX4_forge_67 : decode cX4_forge 67 = .ok (.invokestatic 110, 3) := by decide +kernel
theorem dX4_forge_70 : decode cX4_forge 70 = .ok (.ireturn, 1) := by decide +kernel
theorem dX4_mend_0 : decode cX4_mend 0 = .ok (.aload_n 0, 1) := by decide +kernel
theorem dX4_mend_1 : decode cX4_mend 1 = .ok (.getfield 10, 3) := by decide +kernel
theorem dX4_mend_4 : decode cX4_mend 4 = .ok (.iload_n 1, 1) := by decide +kernel
theorem dX4_mend_5 : decode cX4_mend 5 = .ok (.invokevirtual 83, 3) := by decide +kernel
theorem dX4_mend_8 : decode cX4_mend 8 = .ok (.ifCond .ne 5, 3) := by decide +kernel
theorem dX4_mend_11 : decode cX4_mend 11 = .ok (.iconst (-1), 1) := by decide +kernel
theorem dX4_mend_12 : decode cX4_mend 12 = .ok (.ireturn, 1) := by decide +kernel
theorem dX4_mend_13 : decode cX4_mend 13 = .ok (.aload_n 0, 1) := by decide +kernel
theorem dX4_mend_14 : decode cX4_mend 14 = .ok (.getfield 10, 3) := by decide +kernel
theorem dX4_mend_17 : decode cX4_mend 17 = .ok (.iload_n 1, 1) := by decide +kernel
theorem dX4_mend_18 : decode cX4_mend 18 = .ok (.invokevirtual 107, 3) := by decide +kernel
theorem dX4_mend_21 : decode cX4_mend 21 = .ok (.ifCond .ne 6, 3) := by decide +kernel
theorem dX4_mend_24 : decode cX4_mend 24 = .ok (.bipush (-5), 2) := by decide +kernel
end
section
theorem dX4_mend_26 : decode cX4_mend 26 = .ok (.ireturn, 1) := by decide +kernel
theorem dX4_mend_27 : decode cX4_mend 27 = .ok (.aload_n 0, 1) := by decide +kernel
theorem dX4_mend_28 : decode cX4_mend 28 = .ok (.getfield 10, 3) := by decide +kernel
theorem dX4_mend_31 : decode cX4_mend 31 = .ok (.iload_n 1, 1) := by decide +kernel
theorem dX4_mend_32 : decode cX4_mend 32 = .ok (.invokevirtual 86, 3) := by decide +kernel
theorem dX4_mend_35 : decode cX4_mend 35 = .ok (.aload_n 0, 1) := by decide +kernel
theorem dX4_mend_36 : decode cX4_mend 36 = .ok (.getfield 10, 3) := by decide +kernel
theorem dX4_mend_39 : decode cX4_mend 39 = .ok (.iload_n 1, 1) := by decide +kernel
theorem dX4_mend_40 : decode cX4_mend 40 = .ok (.invokevirtual 89, 3) := by decide +kernel
theorem dX4_mend_43 : decode cX4_mend 43 = .ok (.ixor, 1) := by decide +kernel
theorem dX4_mend_44 : decode cX4_mend 44 = .ok (.invokestatic 99, 3) := by decide +kernel
theorem dX4_mend_47 : decode cX4_mend 47 = .ok (.istore_n 2, 1) := by decide +kernel
theorem dX4_mend_48 : decode cX4_mend 48 = .ok (.aload_n 0, 1) := by decide +kernel
theorem dX4_mend_49 : decode cX4_mend 49 = .ok (.getfield 26, 3) := by decide +kernel
theorem dX4_mend_52 : decode cX4_mend 52 = .ok (.aload_n 0, 1) := by decide +kernel
theorem dX4_mend_53 : decode cX4_mend 53 = .ok (.getfield 10, 3) := by decide +kernel
theorem dX4_mend_56 : decode cX4_mend 56 = .ok (.invokevirtual 41, 3) := by decide +kernel
theorem dX4_mend_59 : decode cX4_mend 59 = .ok (.aload_n 0, 1) := by decide +kernel
theorem dX4_mend_60 : decode cX4_mend 60 = .ok (.getfield 10, 3) := by decide +kernel
theorem dX4_mend_63 : decode cX4_mend 63 = .ok (.iload_n 1, 1) := by decide +kernel
theorem dX4_mend_64 : decode cX4_mend 64 = .ok (.invokevirtual 114, 3) := by decide +kernel
theorem dX4_mend_67 : decode cX4_mend 67 = .ok (.iload_n 2, 1) := by decide +kernel
theorem dX4_mend_68 : decode cX4_mend 68 = .ok (.ireturn, 1) := by decide +kernel
theorem dX4_turn_0 : decode cX4_turn 0 = .ok (.aload_n 0, 1) := by decide +kernel
theorem dX4_turn_1 : decode cX4_turn 1 = .ok (.getfield 10, 3) := by decide +kernel
theorem dX4_turn_4 : decode cX4_turn 4 = .ok (.iload_n 1, 1) := by decide +kernel
theorem dX4_turn_5 : decode cX4_turn 5 = .ok (.invokevirtual 83, 3) := by decide +kernel
theorem dX4_turn_8 : decode cX4_turn 8 = .ok (.ifCond .ne 5, 3) := by decide +kernel
theorem dX4_turn_11 : decode cX4_turn 11 = .ok (.iconst (-1), 1) := by decide +kernel
theorem dX4_turn_12 : decode cX4_turn 12 = .ok (.ireturn, 1) := by decide +kernel
theorem dX4_turn_13 : decode cX4_turn 13 = .ok (.iload_n 2, 1) := by decide +kernel
theorem dX4_turn_14 : decode cX4_turn 14 = .ok (.invokestatic 118, 3) := by decide +kernel
theorem dX4_turn_17 : decode cX4_turn 17 = .ok (.ifCond .ne 6, 3) := by decide +kernel
theorem dX4_turn_20 : decode cX4_turn 20 = .ok (.bipush (-2), 2) := by decide +kernel
theorem dX4_turn_22 : decode cX4_turn 22 = .ok (.ireturn, 1) := by decide +kernel
theorem dX4_turn_23 : decode cX4_turn 23 = .ok (.aload_n 0, 1) := by decide +kernel
theorem dX4_turn_24 : decode cX4_turn 24 = .ok (.getfield 10, 3) := by decide +kernel
theorem dX4_turn_27 : decode cX4_turn 27 = .ok (.getfield 45, 3) := by decide +kernel
theorem dX4_turn_30 : decode cX4_turn 30 = .ok (.iload_n 2, 1) := by decide +kernel
theorem dX4_turn_31 : decode cX4_turn 31 = .ok (.invokevirtual 121, 3) := by decide +kernel
theorem dX4_turn_34 : decode cX4_turn 34 = .ok (.ifCond .eq 6, 3) := by decide +kernel
theorem dX4_turn_37 : decode cX4_turn 37 = .ok (.bipush (-5), 2) := by decide +kernel
theorem dX4_turn_39 : decode cX4_turn 39 = .ok (.ireturn, 1) := by decide +kernel
theorem dX4_turn_40 : decode cX4_turn 40 = .ok (.aload_n 0, 1) := by decide +kernel
theorem dX4_turn_41 : decode cX4_turn 41 = .ok (.getfield 26, 3) := by decide +kernel
theorem dX4_turn_44 : decode cX4_turn 44 = .ok (.aload_n 0, 1) := by decide +kernel
theorem dX4_turn_45 : decode cX4_turn 45 = .ok (.getfield 10, 3) := by decide +kernel
theorem dX4_turn_48 : decode cX4_turn 48 = .ok (.invokevirtual 41, 3) := by decide +kernel
theorem dX4_turn_51 : decode cX4_turn 51 = .ok (.aload_n 0, 1) := by decide +kernel
theorem dX4_turn_52 : decode cX4_turn 52 = .ok (.getfield 10, 3) := by decide +kernel
theorem dX4_turn_55 : decode cX4_turn 55 = .ok (.iload_n 1, 1) := by decide +kernel
theorem dX4_turn_56 : decode cX4_turn 56 = .ok (.iload_n 2, 1) := by decide +kernel
theorem dX4_turn_57 : decode cX4_turn 57 = .ok (.invokevirtual 124, 3) := by decide +kernel
theorem dX4_turn_60 : decode cX4_turn 60 = .ok (.aload_n 0, 1) := by decide +kernel
theorem dX4_turn_61 : decode cX4_turn 61 = .ok (.getfield 10, 3) := by decide +kernel
theorem dX4_turn_64 : decode cX4_turn 64 = .ok (.iload_n 1, 1) := by decide +kernel
theorem dX4_turn_65 : decode cX4_turn 65 = .ok (.invokevirtual 86, 3) := by decide +kernel
theorem dX4_turn_68 : decode cX4_turn 68 = .ok (.ireturn, 1) := by decide +kernel
theorem dX4_stack_0 : decode cX4_stack 0 = .ok (.aload_n 0, 1) := by decide +kernel
theorem dX4_stack_1 : decode cX4_stack 1 = .ok (.getfield 10, 3) := by decide +kernel
theorem dX4_stack_4 : decode cX4_stack 4 = .ok (.iload_n 1, 1) := by decide +kernel
theorem dX4_stack_5 : decode cX4_stack 5 = .ok (.invokevirtual 83, 3) := by decide +kernel
theorem dX4_stack_8 : decode cX4_stack 8 = .ok (.ifCond .ne 5, 3) := by decide +kernel
theorem dX4_stack_11 : decode cX4_stack 11 = .ok (.iconst (-1), 1) := by decide +kernel
theorem dX4_stack_12 : decode cX4_stack 12 = .ok (.ireturn, 1) := by decide +kernel
theorem dX4_stack_13 : decode cX4_stack 13 = .ok (.aload_n 0, 1) := by decide +kernel
theorem dX4_stack_14 : decode cX4_stack 14 = .ok (.getfield 10, 3) := by decide +kernel
theorem dX4_stack_17 : decode cX4_stack 17 = .ok (.invokevirtual 127, 3) := by decide +kernel
theorem dX4_stack_20 : decode cX4_stack 20 = .ok (.iload_n 1, 1) := by decide +kernel
theorem dX4_stack_21 : decode cX4_stack 21 = .ok (.invokestatic 92, 3) := by decide +kernel
theorem dX4_stack_24 : decode cX4_stack 24 = .ok (.iload_n 2, 1) := by decide +kernel
theorem dX4_stack_25 : decode cX4_stack 25 = .ok (.if_icmp .ne 6, 3) := by decide +kernel
theorem dX4_stack_28 : decode cX4_stack 28 = .ok (.bipush (-5), 2) := by decide +kernel
theorem dX4_stack_30 : decode cX4_stack 30 = .ok (.ireturn, 1) := by decide +kernel
theorem dX4_stack_31 : decode cX4_stack 31 = .ok (.aload_n 0, 1) := by decide +kernel
theorem dX4_stack_32 : decode cX4_stack 32 = .ok (.getfield 26, 3) := by decide +kernel
theorem dX4_stack_35 : decode cX4_stack 35 = .ok (.aload_n 0, 1) := by decide +kernel
theorem dX4_stack_36 : decode cX4_stack 36 = .ok (.getfield 10, 3) := by decide +kernel
theorem dX4_stack_39 : decode cX4_stack 39 = .ok (.invokevirtual 41, 3) := by decide +kernel
theorem dX4_stack_42 : decode cX4_stack 42 = .ok (.aload_n 0, 1) := by decide +kernel
theorem dX4_stack_43 : decode cX4_stack 43 = .ok (.getfield 10, 3) := by decide +kernel
theorem dX4_stack_46 : decode cX4_stack 46 = .ok (.iload_n 1, 1) := by decide +kernel
theorem dX4_stack_47 : decode cX4_stack 47 = .ok (.invokevirtual 130, 3) := by decide +kernel
theorem dX4_stack_50 : decode cX4_stack 50 = .ok (.aload_n 0, 1) := by decide +kernel
theorem dX4_stack_51 : decode cX4_stack 51 = .ok (.getfield 10, 3) := by decide +kernel
theorem dX4_stack_54 : decode cX4_stack 54 = .ok (.invokevirtual 127, 3) := by decide +kernel
theorem dX4_stack_57 : decode cX4_stack 57 = .ok (.invokestatic 99, 3) := by decide +kernel
theorem dX4_stack_60 : decode cX4_stack 60 = .ok (.ireturn, 1) := by decide +kernel
theorem dX4_turnStack_0 : decode cX4_turnStack 0 = .ok (.iload_n 1, 1) := by decide +kernel
theorem dX4_turnStack_1 : decode cX4_turnStack 1 = .ok (.invokestatic 118, 3) := by decide +kernel
theorem dX4_turnStack_4 : decode cX4_turnStack 4 = .ok (.ifCond .ne 6, 3) := by decide +kernel
theorem dX4_turnStack_7 : decode cX4_turnStack 7 = .ok (.bipush (-2), 2) := by decide +kernel
theorem dX4_turnStack_9 : decode cX4_turnStack 9 = .ok (.ireturn, 1) := by decide +kernel
theorem dX4_turnStack_10 : decode cX4_turnStack 10 = .ok (.aload_n 0, 1) := by decide +kernel
theorem dX4_turnStack_11 : decode cX4_turnStack 11 = .ok (.getfield 10, 3) := by decide +kernel
theorem dX4_turnStack_14 : decode cX4_turnStack 14 = .ok (.invokevirtual 127, 3) := by decide +kernel
theorem dX4_turnStack_17 : decode cX4_turnStack 17 = .ok (.ifCond .eq 17, 3) := by decide +kernel
theorem dX4_turnStack_20 : decode cX4_turnStack 20 = .ok (.aload_n 0, 1) := by decide +kernel
theorem dX4_turnStack_21 : decode cX4_turnStack 21 = .ok (.getfield 10, 3) := by decide +kernel
theorem dX4_turnStack_24 : decode cX4_turnStack 24 = .ok (.getfield 45, 3) := by decide +kernel
theorem dX4_turnStack_27 : decode cX4_turnStack 27 = .ok (.iload_n 1, 1) := by decide +kernel
theorem dX4_turnStack_28 : decode cX4_turnStack 28 = .ok (.invokevirtual 121, 3) := by decide +kernel
theorem dX4_turnStack_31 : decode cX4_turnStack 31 = .ok (.ifCond .eq 6, 3) := by decide +kernel
theorem dX4_turnStack_34 : decode cX4_turnStack 34 = .ok (.bipush (-5), 2) := by decide +kernel
theorem dX4_turnStack_36 : decode cX4_turnStack 36 = .ok (.ireturn, 1) := by decide +kernel
theorem dX4_turnStack_37 : decode cX4_turnStack 37 = .ok (.aload_n 0, 1) := by decide +kernel
theorem dX4_turnStack_38 : decode cX4_turnStack 38 = .ok (.getfield 26, 3) := by decide +kernel
theorem dX4_turnStack_41 : decode cX4_turnStack 41 = .ok (.aload_n 0, 1) := by decide +kernel
theorem dX4_turnStack_42 : decode cX4_turnStack 42 = .ok (.getfield 10, 3) := by decide +kernel
theorem dX4_turnStack_45 : decode cX4_turnStack 45 = .ok (.invokevirtual 41, 3) := by decide +kernel
theorem dX4_turnStack_48 : decode cX4_turnStack 48 = .ok (.aload_n 0, 1) := by decide +kernel
theorem dX4_turnStack_49 : decode cX4_turnStack 49 = .ok (.getfield 10, 3) := by decide +kernel
theorem dX4_turnStack_52 : decode cX4_turnStack 52 = .ok (.iload_n 1, 1) := by decide +kernel
theorem dX4_turnStack_53 : decode cX4_turnStack 53 = .ok (.invokevirtual 133, 3) := by decide +kernel
theorem dX4_turnStack_56 : decode cX4_turnStack 56 = .ok (.aload_n 0, 1) := by decide +kernel
theorem dX4_turnStack_57 : decode cX4_turnStack 57 = .ok (.getfield 10, 3) := by decide +kernel
theorem dX4_turnStack_60 : decode cX4_turnStack 60 = .ok (.invokevirtual 127, 3) := by decide +kernel
theorem dX4_turnStack_63 : decode cX4_turnStack 63 = .ok (.invokestatic 99, 3) := by decide +kernel
theorem dX4_turnStack_66 : decode cX4_turnStack 66 = .ok (.ireturn, 1) := by decide +kernel
theorem dX4_type_0 : decode cX4_type 0 = .ok (.aload_n 0, 1) := by decide +kernel
theorem dX4_type_1 : decode cX4_type 1 = .ok (.getfield 33, 3) := by decide +kernel
theorem dX4_type_4 : decode cX4_type 4 = .ok (.invokevirtual 136, 3) := by decide +kernel
theorem dX4_type_7 : decode cX4_type 7 = .ok (.bipush 80, 2) := by decide +kernel
theorem dX4_type_9 : decode cX4_type 9 = .ok (.if_icmp .lt 6, 3) := by decide +kernel
theorem dX4_type_12 : decode cX4_type 12 = .ok (.bipush (-3), 2) := by decide +kernel
theorem dX4_type_14 : decode cX4_type 14 = .ok (.ireturn, 1) := by decide +kernel
theorem dX4_type_15 : decode cX4_type 15 = .ok (.aload_n 0, 1) := by decide +kernel
theorem dX4_type_16 : decode cX4_type 16 = .ok (.getfield 33, 3) := by decide +kernel
theorem dX4_type_19 : decode cX4_type 19 = .ok (.iload_n 1, 1) := by decide +kernel
theorem dX4_type_20 : decode cX4_type 20 = .ok (.invokevirtual 139, 3) := by decide +kernel
theorem dX4_type_23 : decode cX4_type 23 = .ok (.aload_n 0, 1) := by decide +kernel
theorem dX4_type_24 : decode cX4_type 24 = .ok (.getfield 33, 3) := by decide +kernel
theorem dX4_type_27 : decode cX4_type 27 = .ok (.invokevirtual 136, 3) := by decide +kernel
theorem dX4_type_30 : decode cX4_type 30 = .ok (.ireturn, 1) := by decide +kernel
theorem dX4_clearText_0 : decode cX4_clearText 0 = .ok (.aload_n 0, 1) := by decide +kernel
theorem dX4_clearText_1 : decode cX4_clearText 1 = .ok (.getfield 33, 3) := by decide +kernel
theorem dX4_clearText_4 : decode cX4_clearText 4 = .ok (.invokevirtual 136, 3) := by decide +kernel
theorem dX4_clearText_7 : decode cX4_clearText 7 = .ok (.istore_n 1, 1) := by decide +kernel
theorem dX4_clearText_8 : decode cX4_clearText 8 = .ok (.aload_n 0, 1) := by decide +kernel
theorem dX4_clearText_9 : decode cX4_clearText 9 = .ok (.getfield 33, 3) := by decide +kernel
theorem dX4_clearText_12 : decode cX4_clearText 12 = .ok (.invokevirtual 143, 3) := by decide +kernel
theorem dX4_clearText_15 : decode cX4_clearText 15 = .ok (.iload_n 1, 1) := by decide +kernel
theorem dX4_clearText_16 : decode cX4_clearText 16 = .ok (.ireturn, 1) := by decide +kernel
theorem dX4_fault_0 : decode cX4_fault 0 = .ok (.iload_n 1, 1) := by decide +kernel
theorem dX4_fault_1 : decode cX4_fault 1 = .ok (.ifCond .lt 8, 3) := by decide +kernel
theorem dX4_fault_4 : decode cX4_fault 4 = .ok (.iload_n 1, 1) := by decide +kernel
theorem dX4_fault_5 : decode cX4_fault 5 = .ok (.iconst 1, 1) := by decide +kernel
theorem dX4_fault_6 : decode cX4_fault 6 = .ok (.if_icmp .le 6, 3) := by decide +kernel
theorem dX4_fault_9 : decode cX4_fault 9 = .ok (.bipush (-2), 2) := by decide +kernel
theorem dX4_fault_11 : decode cX4_fault 11 = .ok (.ireturn, 1) := by decide +kernel
theorem dX4_fault_12 : decode cX4_fault 12 = .ok (.aload_n 0, 1) := by decide +kernel
theorem dX4_fault_13 : decode cX4_fault 13 = .ok (.getfield 33, 3) := by decide +kernel
theorem dX4_fault_16 : decode cX4_fault 16 = .ok (.invokevirtual 62, 3) := by decide +kernel
theorem dX4_fault_19 : decode cX4_fault 19 = .ok (.aload_n 0, 1) := by decide +kernel
theorem dX4_fault_20 : decode cX4_fault 20 = .ok (.getfield 33, 3) := by decide +kernel
theorem dX4_fault_23 : decode cX4_fault 23 = .ok (.invokevirtual 65, 3) := by decide +kernel
theorem dX4_fault_26 : decode cX4_fault 26 = .ok (.ifCond .ne 6, 3) := by decide +kernel
theorem dX4_fault_29 : decode cX4_fault 29 = .ok (.bipush (-5), 2) := by decide +kernel
theorem dX4_fault_31 : decode cX4_fault 31 = .ok (.ireturn, 1) := by decide +kernel
theorem dX4_fault_32 : decode cX4_fault 32 = .ok (.iload_n 1, 1) := by decide +kernel
theorem dX4_fault_33 : decode cX4_fault 33 = .ok (.ifCond .ne 13, 3) := by decide +kernel
theorem dX4_fault_36 : decode cX4_fault 36 = .ok (.aload_n 0, 1) := by decide +kernel
theorem dX4_fault_37 : decode cX4_fault 37 = .ok (.getfield 33, 3) := by decide +kernel
theorem dX4_fault_40 : decode cX4_fault 40 = .ok (.invokevirtual 68, 3) := by decide +kernel
theorem dX4_fault_43 : decode cX4_fault 43 = .ok (.goto 10, 3) := by decide +kernel
theorem dX4_fault_46 : decode cX4_fault 46 = .ok (.aload_n 0, 1) := by decide +kernel
theorem dX4_fault_47 : decode cX4_fault 47 = .ok (.getfield 33, 3) := by decide +kernel
theorem dX4_fault_50 : decode cX4_fault 50 = .ok (.invokevirtual 65, 3) := by decide +kernel
theorem dX4_fault_53 : decode cX4_fault 53 = .ok (.ireturn, 1) := by decide +kernel
theorem dX4_undo_0 : decode cX4_undo 0 = .ok (.aload_n 0, 1) := by decide +kernel
theorem dX4_undo_1 : decode cX4_undo 1 = .ok (.getfield 26, 3) := by decide +kernel
theorem dX4_undo_4 : decode cX4_undo 4 = .ok (.invokevirtual 146, 3) := by decide +kernel
theorem dX4_undo_7 : decode cX4_undo 7 = .ok (.ifCond .ne 6, 3) := by decide +kernel
theorem dX4_undo_10 : decode cX4_undo 10 = .ok (.bipush (-5), 2) := by decide +kernel
theorem dX4_undo_12 : decode cX4_undo 12 = .ok (.ireturn, 1) := by decide +kernel
theorem dX4_undo_13 : decode cX4_undo 13 = .ok (.aload_n 0, 1) := by decide +kernel
theorem dX4_undo_14 : decode cX4_undo 14 = .ok (.getfield 26, 3) := by decide +kernel
theorem dX4_undo_17 : decode cX4_undo 17 = .ok (.aload_n 0, 1) := by decide +kernel
theorem dX4_undo_18 : decode cX4_undo 18 = .ok (.getfield 10, 3) := by decide +kernel
theorem dX4_undo_21 : decode cX4_undo 21 = .ok (.invokevirtual 149, 3) := by decide +kernel
theorem dX4_undo_24 : decode cX4_undo 24 = .ok (.aload_n 0, 1) := by decide +kernel
theorem dX4_undo_25 : decode cX4_undo 25 = .ok (.getfield 26, 3) := by decide +kernel
theorem dX4_undo_28 : decode cX4_undo 28 = .ok (.invokevirtual 146, 3) := by decide +kernel
theorem dX4_undo_31 : decode cX4_undo 31 = .ok (.ireturn, 1) := by decide +kernel
theorem dX4_keep_0 : decode cX4_keep 0 = .ok (.aload_n 0, 1) := by decide +kernel
theorem dX4_keep_1 : decode cX4_keep 1 = .ok (.getfield 16, 3) := by decide +kernel
theorem dX4_keep_4 : decode cX4_keep 4 = .ok (.aload_n 0, 1) := by decide +kernel
theorem dX4_keep_5 : decode cX4_keep 5 = .ok (.getfield 10, 3) := by decide +kernel
theorem dX4_keep_8 : decode cX4_keep 8 = .ok (.invokevirtual 152, 3) := by decide +kernel
theorem dX4_keep_11 : decode cX4_keep 11 = .ok (.aload_n 0, 1) := by decide +kernel
theorem dX4_keep_12 : decode cX4_keep 12 = .ok (.iconst 1, 1) := by decide +kernel
theorem dX4_keep_13 : decode cX4_keep 13 = .ok (.putfield 19, 3) := by decide +kernel
theorem dX4_keep_16 : decode cX4_keep 16 = .ok (.aload_n 0, 1) := by decide +kernel
theorem dX4_keep_17 : decode cX4_keep 17 = .ok (.getfield 10, 3) := by decide +kernel
theorem dX4_keep_20 : decode cX4_keep 20 = .ok (.invokevirtual 76, 3) := by decide +kernel
theorem dX4_keep_23 : decode cX4_keep 23 = .ok (.ireturn, 1) := by decide +kernel
theorem dX4_restore_0 : decode cX4_restore 0 = .ok (.aload_n 0, 1) := by decide +kernel
theorem dX4_restore_1 : decode cX4_restore 1 = .ok (.getfield 19, 3) := by decide +kernel
theorem dX4_restore_4 : decode cX4_restore 4 = .ok (.ifCond .ne 6, 3) := by decide +kernel
theorem dX4_restore_7 : decode cX4_restore 7 = .ok (.bipush (-5), 2) := by decide +kernel
theorem dX4_restore_9 : decode cX4_restore 9 = .ok (.ireturn, 1) := by decide +kernel
theorem dX4_restore_10 : decode cX4_restore 10 = .ok (.aload_n 0, 1) := by decide +kernel
theorem dX4_restore_11 : decode cX4_restore 11 = .ok (.getfield 26, 3) := by decide +kernel
theorem dX4_restore_14 : decode cX4_restore 14 = .ok (.aload_n 0, 1) := by decide +kernel
theorem dX4_restore_15 : decode cX4_restore 15 = .ok (.getfield 10, 3) := by decide +kernel
theorem dX4_restore_18 : decode cX4_restore 18 = .ok (.invokevirtual 41, 3) := by decide +kernel
theorem dX4_restore_21 : decode cX4_restore 21 = .ok (.aload_n 0, 1) := by decide +kernel
theorem dX4_restore_22 : decode cX4_restore 22 = .ok (.getfield 10, 3) := by decide +kernel
theorem dX4_restore_25 : decode cX4_restore 25 = .ok (.aload_n 0, 1) := by decide +kernel
theorem dX4_restore_26 : decode cX4_restore 26 = .ok (.getfield 16, 3) := by decide +kernel
theorem dX4_restore_29 : decode cX4_restore 29 = .ok (.invokevirtual 152, 3) := by decide +kernel
theorem dX4_restore_32 : decode cX4_restore 32 = .ok (.aload_n 0, 1) := by decide +kernel
theorem dX4_restore_33 : decode cX4_restore 33 = .ok (.getfield 10, 3) := by decide +kernel
theorem dX4_restore_36 : decode cX4_restore 36 = .ok (.invokevirtual 76, 3) := by decide +kernel
theorem dX4_restore_39 : decode cX4_restore 39 = .ok (.ireturn, 1) := by decide +kernel
theorem dX4_place_0 : decode cX4_place 0 = .ok (.iload_n 1, 1) := by decide +kernel
theorem dX4_place_1 : decode cX4_place 1 = .ok (.invokestatic 37, 3) := by decide +kernel
theorem dX4_place_4 : decode cX4_place 4 = .ok (.ifCond .ne 5, 3) := by decide +kernel
theorem dX4_place_7 : decode cX4_place 7 = .ok (.iconst (-1), 1) := by decide +kernel
theorem dX4_place_8 : decode cX4_place 8 = .ok (.ireturn, 1) := by decide +kernel
theorem dX4_place_9 : decode cX4_place 9 = .ok (.iload_n 2, 1) := by decide +kernel
theorem dX4_place_10 : decode cX4_place 10 = .ok (.tableswitch 97 0 4 #[34, 46, 58, 73, 88], 34) := by decide +kernel
theorem dX4_place_44 : decode cX4_place 44 = .ok (.aload_n 0, 1) := by decide +kernel
theorem dX4_place_45 : decode cX4_place 45 = .ok (.getfield 10, 3) := by decide +kernel
theorem dX4_place_48 : decode cX4_place 48 = .ok (.getfield 45, 3) := by decide +kernel
theorem dX4_place_51 : decode cX4_place 51 = .ok (.iload_n 1, 1) := by decide +kernel
theorem dX4_place_52 : decode cX4_place 52 = .ok (.invokevirtual 155, 3) := by decide +kernel
theorem dX4_place_55 : decode cX4_place 55 = .ok (.ireturn, 1) := by decide +kernel
theorem dX4_place_56 : decode cX4_place 56 = .ok (.aload_n 0, 1) := by decide +kernel
theorem dX4_place_57 : decode cX4_place 57 = .ok (.getfield 10, 3) := by decide +kernel
theorem dX4_place_60 : decode cX4_place 60 = .ok (.getfield 45, 3) := by decide +kernel
theorem dX4_place_63 : decode cX4_place 63 = .ok (.iload_n 1, 1) := by decide +kernel
theorem dX4_place_64 : decode cX4_place 64 = .ok (.invokevirtual 158, 3) := by decide +kernel
theorem dX4_place_67 : decode cX4_place 67 = .ok (.ireturn, 1) := by decide +kernel
theorem dX4_place_68 : decode cX4_place 68 = .ok (.aload_n 0, 1) := by decide +kernel
theorem dX4_place_69 : decode cX4_place 69 = .ok (.getfield 10, 3) := by decide +kernel
theorem dX4_place_72 : decode cX4_place 72 = .ok (.getfield 45, 3) := by decide +kernel
theorem dX4_place_75 : decode cX4_place 75 = .ok (.iload_n 1, 1) := by decide +kernel
theorem dX4_place_76 : decode cX4_place 76 = .ok (.invokevirtual 161, 3) := by decide +kernel
theorem dX4_place_79 : decode cX4_place 79 = .ok (.invokestatic 99, 3) := by decide +kernel
theorem dX4_place_82 : decode cX4_place 82 = .ok (.ireturn, 1) := by decide +kernel
theorem dX4_place_83 : decode cX4_place 83 = .ok (.aload_n 0, 1) := by decide +kernel
theorem dX4_place_84 : decode cX4_place 84 = .ok (.getfield 10, 3) := by decide +kernel
theorem dX4_place_87 : decode cX4_place 87 = .ok (.getfield 45, 3) := by decide +kernel
theorem dX4_place_90 : decode cX4_place 90 = .ok (.iload_n 1, 1) := by decide +kernel
theorem dX4_place_91 : decode cX4_place 91 = .ok (.invokevirtual 161, 3) := by decide +kernel
theorem dX4_place_94 : decode cX4_place 94 = .ok (.invokestatic 164, 3) := by decide +kernel
theorem dX4_place_97 : decode cX4_place 97 = .ok (.ireturn, 1) := by decide +kernel
theorem dX4_place_98 : decode cX4_place 98 = .ok (.aload_n 0, 1) := by decide +kernel
theorem dX4_place_99 : decode cX4_place 99 = .ok (.getfield 10, 3) := by decide +kernel
theorem dX4_place_102 : decode cX4_place 102 = .ok (.iload_n 1, 1) := by decide +kernel
theorem dX4_place_103 : decode cX4_place 103 = .ok (.invokevirtual 167, 3) := by decide +kernel
theorem dX4_place_106 : decode cX4_place 106 = .ok (.ireturn, 1) := by decide +kernel
theorem dX4_place_107 : decode cX4_place 107 = .ok (.bipush (-2), 2) := by decide +kernel
theorem dX4_place_109 : decode cX4_place 109 = .ok (.ireturn, 1) := by decide +kernel
theorem dX4_move_0 : decode cX4_move 0 = .ok (.iload_n 1, 1) := by decide +kernel
theorem dX4_move_1 : decode cX4_move 1 = .ok (.tableswitch 93 0 4 #[35, 46, 57, 68, 79], 35) := by decide +kernel
theorem dX4_move_36 : decode cX4_move 36 = .ok (.aload_n 0, 1) := by decide +kernel
theorem dX4_move_37 : decode cX4_move 37 = .ok (.getfield 10, 3) := by decide +kernel
theorem dX4_move_40 : decode cX4_move 40 = .ok (.getfield 45, 3) := by decide +kernel
theorem dX4_move_43 : decode cX4_move 43 = .ok (.invokevirtual 55, 3) := by decide +kernel
theorem dX4_move_46 : decode cX4_move 46 = .ok (.ireturn, 1) := by decide +kernel
theorem dX4_move_47 : decode cX4_move 47 = .ok (.aload_n 0, 1) := by decide +kernel
theorem dX4_move_48 : decode cX4_move 48 = .ok (.getfield 10, 3) := by decide +kernel
theorem dX4_move_51 : decode cX4_move 51 = .ok (.getfield 45, 3) := by decide +kernel
theorem dX4_move_54 : decode cX4_move 54 = .ok (.invokevirtual 170, 3) := by decide +kernel
theorem dX4_move_57 : decode cX4_move 57 = .ok (.ireturn, 1) := by decide +kernel
theorem dX4_move_58 : decode cX4_move 58 = .ok (.aload_n 0, 1) := by decide +kernel
theorem dX4_move_59 : decode cX4_move 59 = .ok (.getfield 10, 3) := by decide +kernel
theorem dX4_move_62 : decode cX4_move 62 = .ok (.getfield 45, 3) := by decide +kernel
theorem dX4_move_65 : decode cX4_move 65 = .ok (.invokevirtual 173, 3) := by decide +kernel
theorem dX4_move_68 : decode cX4_move 68 = .ok (.ireturn, 1) := by decide +kernel
theorem dX4_move_69 : decode cX4_move 69 = .ok (.aload_n 0, 1) := by decide +kernel
theorem dX4_move_70 : decode cX4_move 70 = .ok (.getfield 10, 3) := by decide +kernel
theorem dX4_move_73 : decode cX4_move 73 = .ok (.getfield 45, 3) := by decide +kernel
theorem dX4_move_76 : decode cX4_move 76 = .ok (.invokevirtual 176, 3) := by decide +kernel
theorem dX4_move_79 : decode cX4_move 79 = .ok (.ireturn, 1) := by decide +kernel
theorem dX4_move_80 : decode cX4_move 80 = .ok (.aload_n 0, 1) := by decide +kernel
theorem dX4_move_81 : decode cX4_move 81 = .ok (.getfield 10, 3) := by decide +kernel
theorem dX4_move_84 : decode cX4_move 84 = .ok (.getfield 45, 3) := by decide +kernel
theorem dX4_move_87 : decode cX4_move 87 = .ok (.invokevirtual 179, 3) := by decide +kernel
theorem dX4_move_90 : decode cX4_move 90 = .ok (.invokestatic 110, 3) := by decide +kernel
theorem dX4_move_93 : decode cX4_move 93 = .ok (.ireturn, 1) := by decide +kernel
theorem dX4_move_94 : decode cX4_move 94 = .ok (.bipush (-2), 2) := by decide +kernel
theorem dX4_move_96 : decode cX4_move 96 = .ok (.ireturn, 1) := by decide +kernel
theorem dX4_power_0 : decode cX4_power 0 = .ok (.iload_n 1, 1) := by decide +kernel
theorem dX4_power_1 : decode cX4_power 1 = .ok (.invokestatic 37, 3) := by decide +kernel
theorem dX4_power_4 : decode cX4_power 4 = .ok (.ifCond .ne 5, 3) := by decide +kernel
theorem dX4_power_7 : decode cX4_power 7 = .ok (.iconst (-1), 1) := by decide +kernel
theorem dX4_power_8 : decode cX4_power 8 = .ok (.ireturn, 1) := by decide +kernel
theorem dX4_power_9 : decode cX4_power 9 = .ok (.iload_n 2, 1) := by decide +kernel
theorem dX4_power_10 : decode cX4_power 10 = .ok (.invokestatic 118, 3) := by decide +kernel
theorem dX4_power_13 : decode cX4_power 13 = .ok (.ifCond .ne 6, 3) := by decide +kernel
theorem dX4_power_16 : decode cX4_power 16 = .ok (.bipush (-2), 2) := by decide +kernel
theorem dX4_power_18 : decode cX4_power 18 = .ok (.ireturn, 1) := by decide +kernel
theorem dX4_power_19 : decode cX4_power 19 = .ok (.aload_n 0, 1) := by decide +kernel
theorem dX4_power_20 : decode cX4_power 20 = .ok (.getfield 10, 3) := by decide +kernel
theorem dX4_power_23 : decode cX4_power 23 = .ok (.getfield 45, 3) := by decide +kernel
theorem dX4_power_26 : decode cX4_power 26 = .ok (.iload_n 1, 1) := by decide +kernel
theorem dX4_power_27 : decode cX4_power 27 = .ok (.iload_n 2, 1) := by decide +kernel
theorem dX4_power_28 : decode cX4_power 28 = .ok (.invokevirtual 183, 3) := by decide +kernel
theorem dX4_power_31 : decode cX4_power 31 = .ok (.ireturn, 1) := by decide +kernel
theorem dX4_ticket_0 : decode cX4_ticket 0 = .ok (.aload_n 0, 1) := by decide +kernel
theorem dX4_ticket_1 : decode cX4_ticket 1 = .ok (.getfield 10, 3) := by decide +kernel
theorem dX4_ticket_4 : decode cX4_ticket 4 = .ok (.iload_n 1, 1) := by decide +kernel
theorem dX4_ticket_5 : decode cX4_ticket 5 = .ok (.invokevirtual 83, 3) := by decide +kernel
theorem dX4_ticket_8 : decode cX4_ticket 8 = .ok (.ifCond .ne 5, 3) := by decide +kernel
theorem dX4_ticket_11 : decode cX4_ticket 11 = .ok (.iconst (-1), 1) := by decide +kernel
theorem dX4_ticket_12 : decode cX4_ticket 12 = .ok (.ireturn, 1) := by decide +kernel
theorem dX4_ticket_13 : decode cX4_ticket 13 = .ok (.aload_n 0, 1) := by decide +kernel
theorem dX4_ticket_14 : decode cX4_ticket 14 = .ok (.getfield 10, 3) := by decide +kernel
theorem dX4_ticket_17 : decode cX4_ticket 17 = .ok (.iload_n 1, 1) := by decide +kernel
theorem dX4_ticket_18 : decode cX4_ticket 18 = .ok (.invokevirtual 86, 3) := by decide +kernel
theorem dX4_ticket_21 : decode cX4_ticket 21 = .ok (.istore_n 3, 1) := by decide +kernel
theorem dX4_ticket_22 : decode cX4_ticket 22 = .ok (.aload_n 0, 1) := by decide +kernel
theorem dX4_ticket_23 : decode cX4_ticket 23 = .ok (.getfield 10, 3) := by decide +kernel
theorem dX4_ticket_26 : decode cX4_ticket 26 = .ok (.iload_n 1, 1) := by decide +kernel
theorem dX4_ticket_27 : decode cX4_ticket 27 = .ok (.invokevirtual 89, 3) := by decide +kernel
theorem dX4_ticket_30 : decode cX4_ticket 30 = .ok (.istore 4, 2) := by decide +kernel
theorem dX4_ticket_32 : decode cX4_ticket 32 = .ok (.iload_n 2, 1) := by decide +kernel
theorem dX4_ticket_33 : decode cX4_ticket 33 = .ok (.tableswitch 123 0 8 #[51, 53, 56, 63, 70, 75, 87, 99, 114], 51) := by decide +kernel
theorem dX4_ticket_84 : decode cX4_ticket 84 = .ok (.iload_n 3, 1) := by decide +kernel
theorem dX4_ticket_85 : decode cX4_ticket 85 = .ok (.ireturn, 1) := by decide +kernel
theorem dX4_ticket_86 : decode cX4_ticket 86 = .ok (.iload 4, 2) := by decide +kernel
theorem dX4_ticket_88 : decode cX4_ticket 88 = .ok (.ireturn, 1) := by decide +kernel
theorem dX4_ticket_89 : decode cX4_ticket 89 = .ok (.iload_n 3, 1) := by decide +kernel
theorem dX4_ticket_90 : decode cX4_ticket 90 = .ok (.iload 4, 2) := by decide +kernel
theorem dX4_ticket_92 : decode cX4_ticket 92 = .ok (.iconst (-1), 1) := by decide +kernel
theorem dX4_ticket_93 : decode cX4_ticket 93 = .ok (.ixor, 1) := by decide +kernel
theorem dX4_ticket_94 : decode cX4_ticket 94 = .ok (.iand, 1) := by decide +kernel
theorem dX4_ticket_95 : decode cX4_ticket 95 = .ok (.ireturn, 1) := by decide +kernel
theorem dX4_ticket_96 : decode cX4_ticket 96 = .ok (.iload 4, 2) := by decide +kernel
theorem dX4_ticket_98 : decode cX4_ticket 98 = .ok (.iload_n 3, 1) := by decide +kernel
theorem dX4_ticket_99 : decode cX4_ticket 99 = .ok (.iconst (-1), 1) := by decide +kernel
theorem dX4_ticket_100 : decode cX4_ticket 100 = .ok (.ixor, 1) := by decide +kernel
theorem dX4_ticket_101 : decode cX4_ticket 101 = .ok (.iand, 1) := by decide +kernel
theorem dX4_ticket_102 : decode cX4_ticket 102 = .ok (.ireturn, 1) := by decide +kernel
theorem dX4_ticket_103 : decode cX4_ticket 103 = .ok (.iload_n 3, 1) := by decide +kernel
theorem dX4_ticket_104 : decode cX4_ticket 104 = .ok (.invokestatic 99, 3) := by decide +kernel
theorem dX4_ticket_107 : decode cX4_ticket 107 = .ok (.ireturn, 1) := by decide +kernel
theorem dX4_ticket_108 : decode cX4_ticket 108 = .ok (.aload_n 0, 1) := by decide +kernel
theorem dX4_ticket_109 : decode cX4_ticket 109 = .ok (.getfield 10, 3) := by decide +kernel
theorem dX4_ticket_112 : decode cX4_ticket 112 = .ok (.iload_n 1, 1) := by decide +kernel
theorem dX4_ticket_113 : decode cX4_ticket 113 = .ok (.invokevirtual 107, 3) := by decide +kernel
theorem dX4_ticket_116 : decode cX4_ticket 116 = .ok (.invokestatic 110, 3) := by decide +kernel
theorem dX4_ticket_119 : decode cX4_ticket 119 = .ok (.ireturn, 1) := by decide +kernel
theorem dX4_ticket_120 : decode cX4_ticket 120 = .ok (.aload_n 0, 1) := by decide +kernel
theorem dX4_ticket_121 : decode cX4_ticket 121 = .ok (.getfield 10, 3) := by decide +kernel
theorem dX4_ticket_124 : decode cX4_ticket 124 = .ok (.getfield 45, 3) := by decide +kernel
theorem dX4_ticket_127 : decode cX4_ticket 127 = .ok (.iload_n 3, 1) := by decide +kernel
theorem dX4_ticket_128 : decode cX4_ticket 128 = .ok (.invokevirtual 187, 3) := by decide +kernel
theorem dX4_ticket_131 : decode cX4_ticket 131 = .ok (.ireturn, 1) := by decide +kernel
theorem dX4_ticket_132 : decode cX4_ticket 132 = .ok (.aload_n 0, 1) := by decide +kernel
theorem dX4_ticket_133 : decode cX4_ticket 133 = .ok (.getfield 10, 3) := by decide +kernel
theorem dX4_ticket_136 : decode cX4_ticket 136 = .ok (.invokevirtual 127, 3) := by decide +kernel
theorem dX4_ticket_139 : decode cX4_ticket 139 = .ok (.iload_n 1, 1) := by decide +kernel
theorem dX4_ticket_140 : decode cX4_ticket 140 = .ok (.invokestatic 92, 3) := by decide +kernel
theorem dX4_ticket_143 : decode cX4_ticket 143 = .ok (.invokestatic 110, 3) := by decide +kernel
theorem dX4_ticket_146 : decode cX4_ticket 146 = .ok (.ireturn, 1) := by decide +kernel
theorem dX4_ticket_147 : decode cX4_ticket 147 = .ok (.aload_n 0, 1) := by decide +kernel
theorem dX4_ticket_148 : decode cX4_ticket 148 = .ok (.getfield 10, 3) := by decide +kernel
theorem dX4_ticket_151 : decode cX4_ticket 151 = .ok (.iload_n 1, 1) := by decide +kernel
theorem dX4_ticket_152 : decode cX4_ticket 152 = .ok (.invokevirtual 190, 3) := by decide +kernel
theorem dX4_ticket_155 : decode cX4_ticket 155 = .ok (.ireturn, 1) := by decide +kernel
theorem dX4_ticket_156 : decode cX4_ticket 156 = .ok (.bipush (-2), 2) := by decide +kernel
theorem dX4_ticket_158 : decode cX4_ticket 158 = .ok (.ireturn, 1) := by decide +kernel
theorem dX4_alikeIn_0 : decode cX4_alikeIn 0 = .ok (.aload_n 0, 1) := by decide +kernel
theorem dX4_alikeIn_1 : decode cX4_alikeIn 1 = .ok (.getfield 10, 3) := by decide +kernel
theorem dX4_alikeIn_4 : decode cX4_alikeIn 4 = .ok (.iload_n 1, 1) := by decide +kernel
theorem dX4_alikeIn_5 : decode cX4_alikeIn 5 = .ok (.invokevirtual 83, 3) := by decide +kernel
theorem dX4_alikeIn_8 : decode cX4_alikeIn 8 = .ok (.ifCond .eq 14, 3) := by decide +kernel
theorem dX4_alikeIn_11 : decode cX4_alikeIn 11 = .ok (.aload_n 0, 1) := by decide +kernel
theorem dX4_alikeIn_12 : decode cX4_alikeIn 12 = .ok (.getfield 10, 3) := by decide +kernel
theorem dX4_alikeIn_15 : decode cX4_alikeIn 15 = .ok (.iload_n 2, 1) := by decide +kernel
theorem dX4_alikeIn_16 : decode cX4_alikeIn 16 = .ok (.invokevirtual 83, 3) := by decide +kernel
theorem dX4_alikeIn_19 : decode cX4_alikeIn 19 = .ok (.ifCond .ne 5, 3) := by decide +kernel
theorem dX4_alikeIn_22 : decode cX4_alikeIn 22 = .ok (.iconst (-1), 1) := by decide +kernel
theorem dX4_alikeIn_23 : decode cX4_alikeIn 23 = .ok (.ireturn, 1) := by decide +kernel
theorem dX4_alikeIn_24 : decode cX4_alikeIn 24 = .ok (.aload_n 0, 1) := by decide +kernel
theorem dX4_alikeIn_25 : decode cX4_alikeIn 25 = .ok (.getfield 10, 3) := by decide +kernel
theorem dX4_alikeIn_28 : decode cX4_alikeIn 28 = .ok (.getfield 45, 3) := by decide +kernel
theorem dX4_alikeIn_31 : decode cX4_alikeIn 31 = .ok (.aload_n 0, 1) := by decide +kernel
theorem dX4_alikeIn_32 : decode cX4_alikeIn 32 = .ok (.getfield 10, 3) := by decide +kernel
theorem dX4_alikeIn_35 : decode cX4_alikeIn 35 = .ok (.iload_n 1, 1) := by decide +kernel
theorem dX4_alikeIn_36 : decode cX4_alikeIn 36 = .ok (.invokevirtual 86, 3) := by decide +kernel
theorem dX4_alikeIn_39 : decode cX4_alikeIn 39 = .ok (.aload_n 0, 1) := by decide +kernel
theorem dX4_alikeIn_40 : decode cX4_alikeIn 40 = .ok (.getfield 10, 3) := by decide +kernel
theorem dX4_alikeIn_43 : decode cX4_alikeIn 43 = .ok (.iload_n 2, 1) := by decide +kernel
theorem dX4_alikeIn_44 : decode cX4_alikeIn 44 = .ok (.invokevirtual 86, 3) := by decide +kernel
theorem dX4_alikeIn_47 : decode cX4_alikeIn 47 = .ok (.invokevirtual 193, 3) := by decide +kernel
theorem dX4_alikeIn_50 : decode cX4_alikeIn 50 = .ok (.ireturn, 1) := by decide +kernel
theorem dX4_meetsIn_0 : decode cX4_meetsIn 0 = .ok (.aload_n 0, 1) := by decide +kernel
theorem dX4_meetsIn_1 : decode cX4_meetsIn 1 = .ok (.getfield 10, 3) := by decide +kernel
theorem dX4_meetsIn_4 : decode cX4_meetsIn 4 = .ok (.iload_n 1, 1) := by decide +kernel
theorem dX4_meetsIn_5 : decode cX4_meetsIn 5 = .ok (.invokevirtual 83, 3) := by decide +kernel
theorem dX4_meetsIn_8 : decode cX4_meetsIn 8 = .ok (.ifCond .eq 14, 3) := by decide +kernel
theorem dX4_meetsIn_11 : decode cX4_meetsIn 11 = .ok (.aload_n 0, 1) := by decide +kernel
theorem dX4_meetsIn_12 : decode cX4_meetsIn 12 = .ok (.getfield 10, 3) := by decide +kernel
theorem dX4_meetsIn_15 : decode cX4_meetsIn 15 = .ok (.iload_n 2, 1) := by decide +kernel
theorem dX4_meetsIn_16 : decode cX4_meetsIn 16 = .ok (.invokevirtual 83, 3) := by decide +kernel
theorem dX4_meetsIn_19 : decode cX4_meetsIn 19 = .ok (.ifCond .ne 5, 3) := by decide +kernel
theorem dX4_meetsIn_22 : decode cX4_meetsIn 22 = .ok (.iconst (-1), 1) := by decide +kernel
theorem dX4_meetsIn_23 : decode cX4_meetsIn 23 = .ok (.ireturn, 1) := by decide +kernel
theorem dX4_meetsIn_24 : decode cX4_meetsIn 24 = .ok (.aload_n 0, 1) := by decide +kernel
theorem dX4_meetsIn_25 : decode cX4_meetsIn 25 = .ok (.getfield 10, 3) := by decide +kernel
theorem dX4_meetsIn_28 : decode cX4_meetsIn 28 = .ok (.getfield 45, 3) := by decide +kernel
theorem dX4_meetsIn_31 : decode cX4_meetsIn 31 = .ok (.aload_n 0, 1) := by decide +kernel
theorem dX4_meetsIn_32 : decode cX4_meetsIn 32 = .ok (.getfield 10, 3) := by decide +kernel
theorem dX4_meetsIn_35 : decode cX4_meetsIn 35 = .ok (.iload_n 1, 1) := by decide +kernel
theorem dX4_meetsIn_36 : decode cX4_meetsIn 36 = .ok (.invokevirtual 86, 3) := by decide +kernel
theorem dX4_meetsIn_39 : decode cX4_meetsIn 39 = .ok (.aload_n 0, 1) := by decide +kernel
theorem dX4_meetsIn_40 : decode cX4_meetsIn 40 = .ok (.getfield 10, 3) := by decide +kernel
theorem dX4_meetsIn_43 : decode cX4_meetsIn 43 = .ok (.iload_n 2, 1) := by decide +kernel
theorem dX4_meetsIn_44 : decode cX4_meetsIn 44 = .ok (.invokevirtual 86, 3) := by decide +kernel
theorem dX4_meetsIn_47 : decode cX4_meetsIn 47 = .ok (.invokevirtual 196, 3) := by decide +kernel
theorem dX4_meetsIn_50 : decode cX4_meetsIn 50 = .ok (.ireturn, 1) := by decide +kernel
theorem dX4_reason_0 : decode cX4_reason 0 = .ok (.aload_n 0, 1) := by decide +kernel
theorem dX4_reason_1 : decode cX4_reason 1 = .ok (.getfield 10, 3) := by decide +kernel
theorem dX4_reason_4 : decode cX4_reason 4 = .ok (.iload_n 1, 1) := by decide +kernel
theorem dX4_reason_5 : decode cX4_reason 5 = .ok (.invokevirtual 83, 3) := by decide +kernel
theorem dX4_reason_8 : decode cX4_reason 8 = .ok (.ifCond .eq 14, 3) := by decide +kernel
theorem dX4_reason_11 : decode cX4_reason 11 = .ok (.aload_n 0, 1) := by decide +kernel
theorem dX4_reason_12 : decode cX4_reason 12 = .ok (.getfield 10, 3) := by decide +kernel
theorem dX4_reason_15 : decode cX4_reason 15 = .ok (.iload_n 2, 1) := by decide +kernel
theorem dX4_reason_16 : decode cX4_reason 16 = .ok (.invokevirtual 83, 3) := by decide +kernel
theorem dX4_reason_19 : decode cX4_reason 19 = .ok (.ifCond .ne 5, 3) := by decide +kernel
theorem dX4_reason_22 : decode cX4_reason 22 = .ok (.iconst (-1), 1) := by decide +kernel
theorem dX4_reason_23 : decode cX4_reason 23 = .ok (.ireturn, 1) := by decide +kernel
theorem dX4_reason_24 : decode cX4_reason 24 = .ok (.aload_n 0, 1) := by decide +kernel
theorem dX4_reason_25 : decode cX4_reason 25 = .ok (.getfield 10, 3) := by decide +kernel
theorem dX4_reason_28 : decode cX4_reason 28 = .ok (.iload_n 1, 1) := by decide +kernel
theorem dX4_reason_29 : decode cX4_reason 29 = .ok (.invokevirtual 86, 3) := by decide +kernel
theorem dX4_reason_32 : decode cX4_reason 32 = .ok (.istore_n 3, 1) := by decide +kernel
theorem dX4_reason_33 : decode cX4_reason 33 = .ok (.aload_n 0, 1) := by decide +kernel
theorem dX4_reason_34 : decode cX4_reason 34 = .ok (.getfield 10, 3) := by decide +kernel
theorem dX4_reason_37 : decode cX4_reason 37 = .ok (.iload_n 2, 1) := by decide +kernel
theorem dX4_reason_38 : decode cX4_reason 38 = .ok (.invokevirtual 86, 3) := by decide +kernel
theorem dX4_reason_41 : decode cX4_reason 41 = .ok (.istore 4, 2) := by decide +kernel
theorem dX4_reason_43 : decode cX4_reason 43 = .ok (.iload_n 3, 1) := by decide +kernel
theorem dX4_reason_44 : decode cX4_reason 44 = .ok (.invokestatic 99, 3) := by decide +kernel
theorem dX4_reason_47 : decode cX4_reason 47 = .ok (.iload 4, 2) := by decide +kernel
theorem dX4_reason_49 : decode cX4_reason 49 = .ok (.invokestatic 99, 3) := by decide +kernel
theorem dX4_reason_52 : decode cX4_reason 52 = .ok (.if_icmp .eq 5, 3) := by decide +kernel
theorem dX4_reason_55 : decode cX4_reason 55 = .ok (.iconst 1, 1) := by decide +kernel
theorem dX4_reason_56 : decode cX4_reason 56 = .ok (.ireturn, 1) := by decide +kernel
theorem dX4_reason_57 : decode cX4_reason 57 = .ok (.aload_n 0, 1) := by decide +kernel
theorem dX4_reason_58 : decode cX4_reason 58 = .ok (.getfield 10, 3) := by decide +kernel
theorem dX4_reason_61 : decode cX4_reason 61 = .ok (.getfield 45, 3) := by decide +kernel
theorem dX4_reason_64 : decode cX4_reason 64 = .ok (.iload_n 3, 1) := by decide +kernel
theorem dX4_reason_65 : decode cX4_reason 65 = .ok (.iload 4, 2) := by decide +kernel
theorem dX4_reason_67 : decode cX4_reason 67 = .ok (.invokevirtual 199, 3) := by decide +kernel
theorem dX4_reason_70 : decode cX4_reason 70 = .ok (.ifCond .ne 5, 3) := by decide +kernel
theorem dX4_reason_73 : decode cX4_reason 73 = .ok (.iconst 2, 1) := by decide +kernel
theorem dX4_reason_74 : decode cX4_reason 74 = .ok (.ireturn, 1) := by decide +kernel
theorem dX4_reason_75 : decode cX4_reason 75 = .ok (.aload_n 0, 1) := by decide +kernel
theorem dX4_reason_76 : decode cX4_reason 76 = .ok (.getfield 10, 3) := by decide +kernel
theorem dX4_reason_79 : decode cX4_reason 79 = .ok (.getfield 45, 3) := by decide +kernel
theorem dX4_reason_82 : decode cX4_reason 82 = .ok (.iload_n 3, 1) := by decide +kernel
theorem dX4_reason_83 : decode cX4_reason 83 = .ok (.iload 4, 2) := by decide +kernel
theorem dX4_reason_85 : decode cX4_reason 85 = .ok (.invokevirtual 193, 3) := by decide +kernel
theorem dX4_reason_88 : decode cX4_reason 88 = .ok (.bipush (-5), 2) := by decide +kernel
theorem dX4_reason_90 : decode cX4_reason 90 = .ok (.if_icmp .ne 7, 3) := by decide +kernel
theorem dX4_reason_93 : decode cX4_reason 93 = .ok (.iconst 3, 1) := by decide +kernel
theorem dX4_reason_94 : decode cX4_reason 94 = .ok (.goto 4, 3) := by decide +kernel
theorem dX4_reason_97 : decode cX4_reason 97 = .ok (.iconst 0, 1) := by decide +kernel
theorem dX4_reason_98 : decode cX4_reason 98 = .ok (.ireturn, 1) := by decide +kernel
theorem dX4_kin_0 : decode cX4_kin 0 = .ok (.aload_n 0, 1) := by decide +kernel
theorem dX4_kin_1 : decode cX4_kin 1 = .ok (.getfield 10, 3) := by decide +kernel
theorem dX4_kin_4 : decode cX4_kin 4 = .ok (.iload_n 1, 1) := by decide +kernel
theorem dX4_kin_5 : decode cX4_kin 5 = .ok (.invokevirtual 83, 3) := by decide +kernel
theorem dX4_kin_8 : decode cX4_kin 8 = .ok (.ifCond .ne 5, 3) := by decide +kernel
theorem dX4_kin_11 : decode cX4_kin 11 = .ok (.iconst (-1), 1) := by decide +kernel
theorem dX4_kin_12 : decode cX4_kin 12 = .ok (.ireturn, 1) := by decide +kernel
theorem dX4_kin_13 : decode cX4_kin 13 = .ok (.aload_n 0, 1) := by decide +kernel
theorem dX4_kin_14 : decode cX4_kin 14 = .ok (.getfield 10, 3) := by decide +kernel
theorem dX4_kin_17 : decode cX4_kin 17 = .ok (.iload_n 1, 1) := by decide +kernel
theorem dX4_kin_18 : decode cX4_kin 18 = .ok (.invokevirtual 202, 3) := by decide +kernel
theorem dX4_kin_21 : decode cX4_kin 21 = .ok (.ireturn, 1) := by decide +kernel
theorem dX4_light_0 : decode cX4_light 0 = .ok (.aload_n 0, 1) := by decide +kernel
theorem dX4_light_1 : decode cX4_light 1 = .ok (.getfield 10, 3) := by decide +kernel
theorem dX4_light_4 : decode cX4_light 4 = .ok (.invokevirtual 205, 3) := by decide +kernel
theorem dX4_light_7 : decode cX4_light 7 = .ok (.ireturn, 1) := by decide +kernel
theorem dX4_bestTurn_0 : decode cX4_bestTurn 0 = .ok (.aload_n 0, 1) := by decide +kernel
theorem dX4_bestTurn_1 : decode cX4_bestTurn 1 = .ok (.getfield 10, 3) := by decide +kernel
theorem dX4_bestTurn_4 : decode cX4_bestTurn 4 = .ok (.iload_n 1, 1) := by decide +kernel
theorem dX4_bestTurn_5 : decode cX4_bestTurn 5 = .ok (.invokevirtual 83, 3) := by decide +kernel
theorem dX4_bestTurn_8 : decode cX4_bestTurn 8 = .ok (.ifCond .ne 5, 3) := by decide +kernel
theorem dX4_bestTurn_11 : decode cX4_bestTurn 11 = .ok (.iconst (-1), 1) := by decide +kernel
theorem dX4_bestTurn_12 : decode cX4_bestTurn 12 = .ok (.ireturn, 1) := by decide +kernel
theorem dX4_bestTurn_13 : decode cX4_bestTurn 13 = .ok (.iload_n 2, 1) := by decide +kernel
theorem dX4_bestTurn_14 : decode cX4_bestTurn 14 = .ok (.ifCond .lt 8, 3) := by decide +kernel
theorem dX4_bestTurn_17 : decode cX4_bestTurn 17 = .ok (.iload_n 2, 1) := by decide +kernel
theorem dX4_bestTurn_18 : decode cX4_bestTurn 18 = .ok (.iconst 1, 1) := by decide +kernel
theorem dX4_bestTurn_19 : decode cX4_bestTurn 19 = .ok (.if_icmp .le 6, 3) := by decide +kernel
theorem dX4_bestTurn_22 : decode cX4_bestTurn 22 = .ok (.bipush (-2), 2) := by decide +kernel
theorem dX4_bestTurn_24 : decode cX4_bestTurn 24 = .ok (.ireturn, 1) := by decide +kernel
theorem dX4_bestTurn_25 : decode cX4_bestTurn 25 = .ok (.aload_n 0, 1) := by decide +kernel
theorem dX4_bestTurn_26 : decode cX4_bestTurn 26 = .ok (.getfield 10, 3) := by decide +kernel
theorem dX4_bestTurn_29 : decode cX4_bestTurn 29 = .ok (.invokevirtual 127, 3) := by decide +kernel
theorem dX4_bestTurn_32 : decode cX4_bestTurn 32 = .ok (.iload_n 1, 1) := by decide +kernel
theorem dX4_bestTurn_33 : decode cX4_bestTurn 33 = .ok (.invokestatic 92, 3) := by decide +kernel
theorem dX4_bestTurn_36 : decode cX4_bestTurn 36 = .ok (.ifCond .ne 6, 3) := by decide +kernel
theorem dX4_bestTurn_39 : decode cX4_bestTurn 39 = .ok (.bipush (-4), 2) := by decide +kernel
theorem dX4_bestTurn_41 : decode cX4_bestTurn 41 = .ok (.ireturn, 1) := by decide +kernel
theorem dX4_bestTurn_42 : decode cX4_bestTurn 42 = .ok (.iload_n 2, 1) := by decide +kernel
theorem dX4_bestTurn_43 : decode cX4_bestTurn 43 = .ok (.ifCond .ne 14, 3) := by decide +kernel
theorem dX4_bestTurn_46 : decode cX4_bestTurn 46 = .ok (.aload_n 0, 1) := by decide +kernel
theorem dX4_bestTurn_47 : decode cX4_bestTurn 47 = .ok (.getfield 10, 3) := by decide +kernel
theorem dX4_bestTurn_50 : decode cX4_bestTurn 50 = .ok (.iload_n 1, 1) := by decide +kernel
theorem dX4_bestTurn_51 : decode cX4_bestTurn 51 = .ok (.invokevirtual 208, 3) := by decide +kernel
theorem dX4_bestTurn_54 : decode cX4_bestTurn 54 = .ok (.goto 11, 3) := by decide +kernel
theorem dX4_bestTurn_57 : decode cX4_bestTurn 57 = .ok (.aload_n 0, 1) := by decide +kernel
theorem dX4_bestTurn_58 : decode cX4_bestTurn 58 = .ok (.getfield 10, 3) := by decide +kernel
theorem dX4_bestTurn_61 : decode cX4_bestTurn 61 = .ok (.iload_n 1, 1) := by decide +kernel
theorem dX4_bestTurn_62 : decode cX4_bestTurn 62 = .ok (.invokevirtual 211, 3) := by decide +kernel
theorem dX4_bestTurn_65 : decode cX4_bestTurn 65 = .ok (.ireturn, 1) := by decide +kernel
theorem dX4_count_0 : decode cX4_count 0 = .ok (.iload_n 1, 1) := by decide +kernel
theorem dX4_count_1 : decode cX4_count 1 = .ok (.tableswitch 153 0 10 #[59, 67, 78, 86, 94, 102, 113, 121, 129, 137, 145], 59) := by decide +kernel
theorem dX4_count_60 : decode cX4_count 60 = .ok (.aload_n 0, 1) := by decide +kernel
theorem dX4_count_61 : decode cX4_count 61 = .ok (.getfield 10, 3) := by decide +kernel
theorem dX4_count_64 : decode cX4_count 64 = .ok (.invokevirtual 76, 3) := by decide +kernel
theorem dX4_count_67 : decode cX4_count 67 = .ok (.ireturn, 1) := by decide +kernel
theorem dX4_count_68 : decode cX4_count 68 = .ok (.aload_n 0, 1) := by decide +kernel
theorem dX4_count_69 : decode cX4_count 69 = .ok (.getfield 10, 3) := by decide +kernel
theorem dX4_count_72 : decode cX4_count 72 = .ok (.invokevirtual 127, 3) := by decide +kernel
theorem dX4_count_75 : decode cX4_count 75 = .ok (.invokestatic 99, 3) := by decide +kernel
theorem dX4_count_78 : decode cX4_count 78 = .ok (.ireturn, 1) := by decide +kernel
theorem dX4_count_79 : decode cX4_count 79 = .ok (.aload_n 0, 1) := by decide +kernel
theorem dX4_count_80 : decode cX4_count 80 = .ok (.getfield 10, 3) := by decide +kernel
theorem dX4_count_83 : decode cX4_count 83 = .ok (.invokevirtual 214, 3) := by decide +kernel
theorem dX4_count_86 : decode cX4_count 86 = .ok (.ireturn, 1) := by decide +kernel
theorem dX4_count_87 : decode cX4_count 87 = .ok (.aload_n 0, 1) := by decide +kernel
theorem dX4_count_88 : decode cX4_count 88 = .ok (.getfield 10, 3) := by decide +kernel
theorem dX4_count_91 : decode cX4_count 91 = .ok (.invokevirtual 217, 3) := by decide +kernel
theorem dX4_count_94 : decode cX4_count 94 = .ok (.ireturn, 1) := by decide +kernel
theorem dX4_count_95 : decode cX4_count 95 = .ok (.aload_n 0, 1) := by decide +kernel
theorem dX4_count_96 : decode cX4_count 96 = .ok (.getfield 10, 3) := by decide +kernel
theorem dX4_count_99 : decode cX4_count 99 = .ok (.invokevirtual 220, 3) := by decide +kernel
theorem dX4_count_102 : decode cX4_count 102 = .ok (.ireturn, 1) := by decide +kernel
theorem dX4_count_103 : decode cX4_count 103 = .ok (.aload_n 0, 1) := by decide +kernel
theorem dX4_count_104 : decode cX4_count 104 = .ok (.getfield 10, 3) := by decide +kernel
theorem dX4_count_107 : decode cX4_count 107 = .ok (.invokevirtual 205, 3) := by decide +kernel
theorem dX4_count_110 : decode cX4_count 110 = .ok (.invokestatic 99, 3) := by decide +kernel
theorem dX4_count_113 : decode cX4_count 113 = .ok (.ireturn, 1) := by decide +kernel
theorem dX4_count_114 : decode cX4_count 114 = .ok (.aload_n 0, 1) := by decide +kernel
theorem dX4_count_115 : decode cX4_count 115 = .ok (.getfield 10, 3) := by decide +kernel
theorem dX4_count_118 : decode cX4_count 118 = .ok (.invokevirtual 223, 3) := by decide +kernel
theorem dX4_count_121 : decode cX4_count 121 = .ok (.ireturn, 1) := by decide +kernel
theorem dX4_count_122 : decode cX4_count 122 = .ok (.aload_n 0, 1) := by decide +kernel
theorem dX4_count_123 : decode cX4_count 123 = .ok (.getfield 10, 3) := by decide +kernel
theorem dX4_count_126 : decode cX4_count 126 = .ok (.invokevirtual 226, 3) := by decide +kernel
theorem dX4_count_129 : decode cX4_count 129 = .ok (.ireturn, 1) := by decide +kernel
theorem dX4_count_130 : decode cX4_count 130 = .ok (.aload_n 0, 1) := by decide +kernel
theorem dX4_count_131 : decode cX4_count 131 = .ok (.getfield 10, 3) := by decide +kernel
theorem dX4_count_134 : decode cX4_count 134 = .ok (.invokevirtual 229, 3) := by decide +kernel
theorem dX4_count_137 : decode cX4_count 137 = .ok (.ireturn, 1) := by decide +kernel
theorem dX4_count_138 : decode cX4_count 138 = .ok (.aload_n 0, 1) := by decide +kernel
theorem dX4_count_139 : decode cX4_count 139 = .ok (.getfield 26, 3) := by decide +kernel
theorem dX4_count_142 : decode cX4_count 142 = .ok (.invokevirtual 146, 3) := by decide +kernel
theorem dX4_count_145 : decode cX4_count 145 = .ok (.ireturn, 1) := by decide +kernel
theorem dX4_count_146 : decode cX4_count 146 = .ok (.aload_n 0, 1) := by decide +kernel
theorem dX4_count_147 : decode cX4_count 147 = .ok (.getfield 33, 3) := by decide +kernel
theorem dX4_count_150 : decode cX4_count 150 = .ok (.invokevirtual 136, 3) := by decide +kernel
theorem dX4_count_153 : decode cX4_count 153 = .ok (.ireturn, 1) := by decide +kernel
theorem dX4_count_154 : decode cX4_count 154 = .ok (.bipush (-2), 2) := by decide +kernel
theorem dX4_count_156 : decode cX4_count 156 = .ok (.ireturn, 1) := by decide +kernel
theorem dX4_isPlace_0 : decode cX4_isPlace 0 = .ok (.iload_n 0, 1) := by decide +kernel
theorem dX4_isPlace_1 : decode cX4_isPlace 1 = .ok (.ifCond .lt 13, 3) := by decide +kernel
theorem dX4_isPlace_4 : decode cX4_isPlace 4 = .ok (.iload_n 0, 1) := by decide +kernel
theorem dX4_isPlace_5 : decode cX4_isPlace 5 = .ok (.bipush 24, 2) := by decide +kernel
theorem dX4_isPlace_7 : decode cX4_isPlace 7 = .ok (.if_icmp .ge 7, 3) := by decide +kernel
theorem dX4_isPlace_10 : decode cX4_isPlace 10 = .ok (.iconst 1, 1) := by decide +kernel
theorem dX4_isPlace_11 : decode cX4_isPlace 11 = .ok (.goto 4, 3) := by decide +kernel
theorem dX4_isPlace_14 : decode cX4_isPlace 14 = .ok (.iconst 0, 1) := by decide +kernel
theorem dX4_isPlace_15 : decode cX4_isPlace 15 = .ok (.ireturn, 1) := by decide +kernel
theorem dX4_isPower_0 : decode cX4_isPower 0 = .ok (.iload_n 0, 1) := by decide +kernel
theorem dX4_isPower_1 : decode cX4_isPower 1 = .ok (.sipush (-9999), 3) := by decide +kernel
theorem dX4_isPower_4 : decode cX4_isPower 4 = .ok (.if_icmp .lt 14, 3) := by decide +kernel
theorem dX4_isPower_7 : decode cX4_isPower 7 = .ok (.iload_n 0, 1) := by decide +kernel
theorem dX4_isPower_8 : decode cX4_isPower 8 = .ok (.sipush 9999, 3) := by decide +kernel
theorem dX4_isPower_11 : decode cX4_isPower 11 = .ok (.if_icmp .gt 7, 3) := by decide +kernel
theorem dX4_isPower_14 : decode cX4_isPower 14 = .ok (.iconst 1, 1) := by decide +kernel
theorem dX4_isPower_15 : decode cX4_isPower 15 = .ok (.goto 4, 3) := by decide +kernel
theorem dX4_isPower_18 : decode cX4_isPower 18 = .ok (.iconst 0, 1) := by decide +kernel
theorem dX4_isPower_19 : decode cX4_isPower 19 = .ok (.ireturn, 1) := by decide +kernel
theorem dX4_asNumber_0 : decode cX4_asNumber 0 = .ok (.iload_n 0, 1) := by decide +kernel
theorem dX4_asNumber_1 : decode cX4_asNumber 1 = .ok (.ifCond .eq 7, 3) := by decide +kernel
theorem dX4_asNumber_4 : decode cX4_asNumber 4 = .ok (.iconst 1, 1) := by decide +kernel
theorem dX4_asNumber_5 : decode cX4_asNumber 5 = .ok (.goto 4, 3) := by decide +kernel
theorem dX4_asNumber_8 : decode cX4_asNumber 8 = .ok (.iconst 0, 1) := by decide +kernel
theorem dX4_asNumber_9 : decode cX4_asNumber 9 = .ok (.ireturn, 1) := by decide +kernel
theorem dX4_only_0 : decode cX4_only 0 = .ok (.iconst 1, 1) := by decide +kernel
theorem dX4_only_1 : decode cX4_only 1 = .ok (.iload_n 0, 1) := by decide +kernel
theorem dX4_only_2 : decode cX4_only 2 = .ok (.ishl, 1) := by decide +kernel
theorem dX4_only_3 : decode cX4_only 3 = .ok (.ireturn, 1) := by decide +kernel
theorem dX4_has_0 : decode cX4_has 0 = .ok (.iload_n 0, 1) := by decide +kernel
theorem dX4_has_1 : decode cX4_has 1 = .ok (.iconst 1, 1) := by decide +kernel
theorem dX4_has_2 : decode cX4_has 2 = .ok (.iload_n 1, 1) := by decide +kernel
theorem dX4_has_3 : decode cX4_has 3 = .ok (.ishl, 1) := by decide +kernel
theorem dX4_has_4 : decode cX4_has 4 = .ok (.iand, 1) := by decide +kernel
theorem dX4_has_5 : decode cX4_has 5 = .ok (.ifCond .eq 7, 3) := by decide +kernel
theorem dX4_has_8 : decode cX4_has 8 = .ok (.iconst 1, 1) := by decide +kernel
theorem dX4_has_9 : decode cX4_has 9 = .ok (.goto 4, 3) := by decide +kernel
theorem dX4_has_12 : decode cX4_has 12 = .ok (.iconst 0, 1) := by decide +kernel
theorem dX4_has_13 : decode cX4_has 13 = .ok (.ireturn, 1) := by decide +kernel
theorem dX4_lowest_0 : decode cX4_lowest 0 = .ok (.iconst 0, 1) := by decide +kernel
theorem dX4_lowest_1 : decode cX4_lowest 1 = .ok (.istore_n 1, 1) := by decide +kernel
theorem dX4_lowest_2 : decode cX4_lowest 2 = .ok (.iload_n 1, 1) := by decide +kernel
theorem dX4_lowest_3 : decode cX4_lowest 3 = .ok (.bipush 24, 2) := by decide +kernel
theorem dX4_lowest_5 : decode cX4_lowest 5 = .ok (.if_icmp .ge 19, 3) := by decide +kernel
theorem dX4_lowest_8 : decode cX4_lowest 8 = .ok (.iload_n 0, 1) := by decide +kernel
theorem dX4_lowest_9 : decode cX4_lowest 9 = .ok (.iload_n 1, 1) := by decide +kernel
theorem dX4_lowest_10 : decode cX4_lowest 10 = .ok (.invokestatic 92, 3) := by decide +kernel
theorem dX4_lowest_13 : decode cX4_lowest 13 = .ok (.ifCond .eq 5, 3) := by decide +kernel
theorem dX4_lowest_16 : decode cX4_lowest 16 = .ok (.iload_n 1, 1) := by decide +kernel
theorem dX4_lowest_17 : decode cX4_lowest 17 = .ok (.ireturn, 1) := by decide +kernel
theorem dX4_lowest_18 : decode cX4_lowest 18 = .ok (.iinc 1 1, 3) := by decide +kernel
theorem dX4_lowest_21 : decode cX4_lowest 21 = .ok (.goto (-19), 3) := by decide +kernel
theorem dX4_lowest_24 : decode cX4_lowest 24 = .ok (.bipush (-5), 2) := by decide +kernel
theorem dX4_lowest_26 : decode cX4_lowest 26 = .ok (.ireturn, 1) := by decide +kernel
theorem dX4_leastCommonMultiple_0 : decode cX4_leastCommonMultiple 0 = .ok (.iload_n 1, 1) := by decide +kernel
theorem dX4_leastCommonMultiple_1 : decode cX4_leastCommonMultiple 1 = .ok (.iconst 1, 1) := by decide +kernel
theorem dX4_leastCommonMultiple_2 : decode cX4_leastCommonMultiple 2 = .ok (.if_icmp .ge 5, 3) := by decide +kernel
theorem dX4_leastCommonMultiple_5 : decode cX4_leastCommonMultiple 5 = .ok (.iload_n 0, 1) := by decide +kernel
theorem dX4_leastCommonMultiple_6 : decode cX4_leastCommonMultiple 6 = .ok (.ireturn, 1) := by decide +kernel
theorem dX4_leastCommonMultiple_7 : decode cX4_leastCommonMultiple 7 = .ok (.iconst 1, 1) := by decide +kernel
theorem dX4_leastCommonMultiple_8 : decode cX4_leastCommonMultiple 8 = .ok (.istore_n 2, 1) := by decide +kernel
theorem dX4_leastCommonMultiple_9 : decode cX4_leastCommonMultiple 9 = .ok (.iload_n 2, 1) := by decide +kernel
theorem dX4_leastCommonMultiple_10 : decode cX4_leastCommonMultiple 10 = .ok (.iload_n 1, 1) := by decide +kernel
theorem dX4_leastCommonMultiple_11 : decode cX4_leastCommonMultiple 11 = .ok (.if_icmp .ge 21, 3) := by decide +kernel
theorem dX4_leastCommonMultiple_14 : decode cX4_leastCommonMultiple 14 = .ok (.iload_n 0, 1) := by decide +kernel
theorem dX4_leastCommonMultiple_15 : decode cX4_leastCommonMultiple 15 = .ok (.iload_n 2, 1) := by decide +kernel
theorem dX4_leastCommonMultiple_16 : decode cX4_leastCommonMultiple 16 = .ok (.imul, 1) := by decide +kernel
theorem dX4_leastCommonMultiple_17 : decode cX4_leastCommonMultiple 17 = .ok (.iload_n 1, 1) := by decide +kernel
theorem dX4_leastCommonMultiple_18 : decode cX4_leastCommonMultiple 18 = .ok (.irem, 1) := by decide +kernel
theorem dX4_leastCommonMultiple_19 : decode cX4_leastCommonMultiple 19 = .ok (.ifCond .ne 7, 3) := by decide +kernel
theorem dX4_leastCommonMultiple_22 : decode cX4_leastCommonMultiple 22 = .ok (.iload_n 0, 1) := by decide +kernel
theorem dX4_leastCommonMultiple_23 : decode cX4_leastCommonMultiple 23 = .ok (.iload_n 2, 1) := by decide +kernel
theorem dX4_leastCommonMultiple_24 : decode cX4_leastCommonMultiple 24 = .ok (.imul, 1) := by decide +kernel
theorem dX4_leastCommonMultiple_25 : decode cX4_leastCommonMultiple 25 = .ok (.ireturn, 1) := by decide +kernel
theorem dX4_leastCommonMultiple_26 : decode cX4_leastCommonMultiple 26 = .ok (.iinc 2 1, 3) := by decide +kernel
theorem dX4_leastCommonMultiple_29 : decode cX4_leastCommonMultiple 29 = .ok (.goto (-20), 3) := by decide +kernel
theorem dX4_leastCommonMultiple_32 : decode cX4_leastCommonMultiple 32 = .ok (.iload_n 0, 1) := by decide +kernel
theorem dX4_leastCommonMultiple_33 : decode cX4_leastCommonMultiple 33 = .ok (.iload_n 1, 1) := by decide +kernel
theorem dX4_leastCommonMultiple_34 : decode cX4_leastCommonMultiple 34 = .ok (.imul, 1) := by decide +kernel
theorem dX4_leastCommonMultiple_35 : decode cX4_leastCommonMultiple 35 = .ok (.ireturn, 1) := by decide +kernel
theorem dX5_init_0 : decode cX5_init 0 = .ok (.aload_n 0, 1) := by decide +kernel
theorem dX5_init_1 : decode cX5_init 1 = .ok (.invokespecial 1, 3) := by decide +kernel
theorem dX5_init_4 : decode cX5_init 4 = .ok (.aload_n 0, 1) := by decide +kernel
theorem dX5_init_5 : decode cX5_init 5 = .ok (.bipush 65, 2) := by decide +kernel
theorem dX5_init_7 : decode cX5_init 7 = .ok (.newarray .int, 2) := by decide +kernel
theorem dX5_init_9 : decode cX5_init 9 = .ok (.putfield 7, 3) := by decide +kernel
theorem dX5_init_12 : decode cX5_init 12 = .ok (.aload_n 0, 1) := by decide +kernel
theorem dX5_init_13 : decode cX5_init 13 = .ok (.sipush 260, 3) := by decide +kernel
theorem dX5_init_16 : decode cX5_init 16 = .ok (.newarray .int, 2) := by decide +kernel
theorem dX5_init_18 : decode cX5_init 18 = .ok (.putfield 13, 3) := by decide +kernel
theorem dX5_init_21 : decode cX5_init 21 = .ok (.aload_n 0, 1) := by decide +kernel
theorem dX5_init_22 : decode cX5_init 22 = .ok (.bipush 65, 2) := by decide +kernel
theorem dX5_init_24 : decode cX5_init 24 = .ok (.newarray .int, 2) := by decide +kernel
theorem dX5_init_26 : decode cX5_init 26 = .ok (.putfield 16, 3) := by decide +kernel
theorem dX5_init_29 : decode cX5_init 29 = .ok (.aload_n 0, 1) := by decide +kernel
theorem dX5_init_30 : decode cX5_init 30 = .ok (.bipush 80, 2) := by decide +kernel
theorem dX5_init_32 : decode cX5_init 32 = .ok (.newarray .char, 2) := by decide +kernel
theorem dX5_init_34 : decode cX5_init 34 = .ok (.putfield 19, 3) := by decide +kernel
theorem dX5_init_37 : decode cX5_init 37 = .ok (.aload_n 0, 1) := by decide +kernel
theorem dX5_init_38 : decode cX5_init 38 = .ok (.bipush 24, 2) := by decide +kernel
theorem dX5_init_40 : decode cX5_init 40 = .ok (.newarray .int, 2) := by decide +kernel
theorem dX5_init_42 : decode cX5_init 42 = .ok (.putfield 23, 3) := by decide +kernel
theorem dX5_init_45 : decode cX5_init 45 = .ok (.iconst 0, 1) := by decide +kernel
theorem dX5_init_46 : decode cX5_init 46 = .ok (.istore_n 1, 1) := by decide +kernel
theorem dX5_init_47 : decode cX5_init 47 = .ok (.iload_n 1, 1) := by decide +kernel
theorem dX5_init_48 : decode cX5_init 48 = .ok (.bipush 24, 2) := by decide +kernel
theorem dX5_init_50 : decode cX5_init 50 = .ok (.if_icmp .ge 23, 3) := by decide +kernel
theorem dX5_init_53 : decode cX5_init 53 = .ok (.aload_n 0, 1) := by decide +kernel
theorem dX5_init_54 : decode cX5_init 54 = .ok (.getfield 7, 3) := by decide +kernel
theorem dX5_init_57 : decode cX5_init 57 = .ok (.iconst 0, 1) := by decide +kernel
theorem dX5_init_58 : decode cX5_init 58 = .ok (.iload_n 1, 1) := by decide +kernel
theorem dX5_init_59 : decode cX5_init 59 = .ok (.iadd, 1) := by decide +kernel
theorem dX5_init_60 : decode cX5_init 60 = .ok (.iload_n 1, 1) := by decide +kernel
theorem dX5_init_61 : decode cX5_init 61 = .ok (.iconst 1, 1) := by decide +kernel
theorem dX5_init_62 : decode cX5_init 62 = .ok (.iadd, 1) := by decide +kernel
theorem dX5_init_63 : decode cX5_init 63 = .ok (.bipush 24, 2) := by decide +kernel
theorem dX5_init_65 : decode cX5_init 65 = .ok (.irem, 1) := by decide +kernel
theorem dX5_init_66 : decode cX5_init 66 = .ok (.iastore, 1) := by decide +kernel
theorem dX5_init_67 : decode cX5_init 67 = .ok (.iinc 1 1, 3) := by decide +kernel
theorem dX5_init_70 : decode cX5_init 70 = .ok (.goto (-23), 3) := by decide +kernel
theorem dX5_init_73 : decode cX5_init 73 = .ok (.return_, 1) := by decide +kernel
theorem dX5_in_0 : decode cX5_in 0 = .ok (.iload_n 0, 1) := by decide +kernel
theorem dX5_in_1 : decode cX5_in 1 = .ok (.iload_n 1, 1) := by decide +kernel
theorem dX5_in_2 : decode cX5_in 2 = .ok (.if_icmp .lt 12, 3) := by decide +kernel
theorem dX5_in_5 : decode cX5_in 5 = .ok (.iload_n 0, 1) := by decide +kernel
theorem dX5_in_6 : decode cX5_in 6 = .ok (.iload_n 2, 1) := by decide +kernel
theorem dX5_in_7 : decode cX5_in 7 = .ok (.if_icmp .gt 7, 3) := by decide +kernel
theorem dX5_in_10 : decode cX5_in 10 = .ok (.iconst 1, 1) := by decide +kernel
theorem dX5_in_11 : decode cX5_in 11 = .ok (.goto 4, 3) := by decide +kernel
theorem dX5_in_14 : decode cX5_in 14 = .ok (.iconst 0, 1) := by decide +kernel
theorem dX5_in_15 : decode cX5_in 15 = .ok (.ireturn, 1) := by decide +kernel
theorem dX5_isPlace_0 : decode cX5_isPlace 0 = .ok (.iload_n 0, 1) := by decide +kernel
theorem dX5_isPlace_1 : decode cX5_isPlace 1 = .ok (.iconst 0, 1) := by decide +kernel
theorem dX5_isPlace_2 : decode cX5_isPlace 2 = .ok (.bipush 23, 2) := by decide +kernel
theorem dX5_isPlace_4 : decode cX5_isPlace 4 = .ok (.invokestatic 26, 3) := by decide +kernel
theorem dX5_isPlace_7 : decode cX5_isPlace 7 = .ok (.ireturn, 1) := by decide +kernel
theorem dX5_isTicket_0 : decode cX5_isTicket 0 = .ok (.iload_n 1, 1) := by decide +kernel
theorem dX5_isTicket_1 : decode cX5_isTicket 1 = .ok (.iconst 0, 1) := by decide +kernel
theorem dX5_isTicket_2 : decode cX5_isTicket 2 = .ok (.aload_n 0, 1) := by decide +kernel
theorem dX5_isTicket_3 : decode cX5_isTicket 3 = .ok (.getfield 7, 3) := by decide +kernel
theorem dX5_isTicket_6 : decode cX5_isTicket 6 = .ok (.bipush 24, 2) := by decide +kernel
theorem dX5_isTicket_8 : decode cX5_isTicket 8 = .ok (.iaload, 1) := by decide +kernel
theorem dX5_isTicket_9 : decode cX5_isTicket 9 = .ok (.iconst 1, 1) := by decide +kernel
theorem dX5_isTicket_10 : decode cX5_isTicket 10 = .ok (.isub, 1) := by decide +kernel
theorem dX5_isTicket_11 : decode cX5_isTicket 11 = .ok (.invokestatic 26, 3) := by decide +kernel
theorem dX5_isTicket_14 : decode cX5_isTicket 14 = .ok (.ireturn, 1) := by decide +kernel
theorem dX5_isPower_0 : decode cX5_isPower 0 = .ok (.iload_n 0, 1) := by decide +kernel
theorem dX5_isPower_1 : decode cX5_isPower 1 = .ok (.sipush (-9999), 3) := by decide +kernel
theorem dX5_isPower_4 : decode cX5_isPower 4 = .ok (.sipush 9999, 3) := by decide +kernel
theorem dX5_isPower_7 : decode cX5_isPower 7 = .ok (.invokestatic 26, 3) := by decide +kernel
theorem dX5_isPower_10 : decode cX5_isPower 10 = .ok (.ireturn, 1) := by decide +kernel
theorem dX5_ones_0 : decode cX5_ones 0 = .ok (.iconst 0, 1) := by decide +kernel
theorem dX5_ones_1 : decode cX5_ones 1 = .ok (.istore_n 1, 1) := by decide +kernel
theorem dX5_ones_2 : decode cX5_ones 2 = .ok (.iconst 0, 1) := by decide +kernel
theorem dX5_ones_3 : decode cX5_ones 3 = .ok (.istore_n 2, 1) := by decide +kernel
theorem dX5_ones_4 : decode cX5_ones 4 = .ok (.iload_n 2, 1) := by decide +kernel
theorem dX5_ones_5 : decode cX5_ones 5 = .ok (.bipush 24, 2) := by decide +kernel
theorem dX5_ones_7 : decode cX5_ones 7 = .ok (.if_icmp .ge 17, 3) := by decide +kernel
theorem dX5_ones_10 : decode cX5_ones 10 = .ok (.iload_n 1, 1) := by decide +kernel
theorem dX5_ones_11 : decode cX5_ones 11 = .ok (.iload_n 0, 1) := by decide +kernel
theorem dX5_ones_12 : decode cX5_ones 12 = .ok (.iload_n 2, 1) := by decide +kernel
theorem dX5_ones_13 : decode cX5_ones 13 = .ok (.ishr, 1) := by decide +kernel
theorem dX5_ones_14 : decode cX5_ones 14 = .ok (.iconst 1, 1) := by decide +kernel
theorem dX5_ones_15 : decode cX5_ones 15 = .ok (.iand, 1) := by decide +kernel
theorem dX5_ones_16 : decode cX5_ones 16 = .ok (.iadd, 1) := by decide +kernel
theorem dX5_ones_17 : decode cX5_ones 17 = .ok (.istore_n 1, 1) := by decide +kernel
theorem dX5_ones_18 : decode cX5_ones 18 = .ok (.iinc 2 1, 3) := by decide +kernel
theorem dX5_ones_21 : decode cX5_ones 21 = .ok (.goto (-17), 3) := by decide +kernel
theorem dX5_ones_24 : decode cX5_ones 24 = .ok (.iload_n 1, 1) := by decide +kernel
theorem dX5_ones_25 : decode cX5_ones 25 = .ok (.ireturn, 1) := by decide +kernel
theorem dX5_records_0 : decode cX5_records 0 = .ok (.aload_n 0, 1) := by decide +kernel
theorem dX5_records_1 : decode cX5_records 1 = .ok (.getfield 30, 3) := by decide +kernel
theorem dX5_records_4 : decode cX5_records 4 = .ok (.iconst 4, 1) := by decide +kernel
theorem dX5_records_5 : decode cX5_records 5 = .ok (.if_icmp .ne 43, 3) := by decide +kernel
theorem dX5_records_8 : decode cX5_records 8 = .ok (.iconst 0, 1) := by decide +kernel
theorem dX5_records_9 : decode cX5_records 9 = .ok (.istore_n 1, 1) := by decide +kernel
theorem dX5_records_10 : decode cX5_records 10 = .ok (.iload_n 1, 1) := by decide +kernel
theorem dX5_records_11 : decode cX5_records 11 = .ok (.sipush 195, 3) := by decide +kernel
theorem dX5_records_14 : decode cX5_records 14 = .ok (.if_icmp .ge 24, 3) := by decide +kernel
theorem dX5_records_17 : decode cX5_records 17 = .ok (.aload_n 0, 1) := by decide +kernel
theorem dX5_records_18 : decode cX5_records 18 = .ok (.getfield 13, 3) := by decide +kernel
theorem dX5_records_21 : decode cX5_records 21 = .ok (.iload_n 1, 1) := by decide +kernel
theorem dX5_records_22 : decode cX5_records 22 = .ok (.aload_n 0, 1) := by decide +kernel
theorem dX5_records_23 : decode cX5_records 23 = .ok (.getfield 13, 3) := by decide +kernel
theorem dX5_records_26 : decode cX5_records 26 = .ok (.bipush 65, 2) := by decide +kernel
theorem dX5_records_28 : decode cX5_records 28 = .ok (.iload_n 1, 1) := by decide +kernel
theorem dX5_records_29 : decode cX5_records 29 = .ok (.iadd, 1) := by decide +kernel
theorem dX5_records_30 : decode cX5_records 30 = .ok (.iaload, 1) := by decide +kernel
theorem dX5_records_31 : decode cX5_records 31 = .ok (.iastore, 1) := by decide +kernel
theorem dX5_records_32 : decode cX5_records 32 = .ok (.iinc 1 1, 3) := by decide +kernel
theorem dX5_records_35 : decode cX5_records 35 = .ok (.goto (-25), 3) := by decide +kernel
theorem dX5_records_38 : decode cX5_records 38 = .ok (.aload_n 0, 1) := by decide +kernel
theorem dX5_records_39 : decode cX5_records 39 = .ok (.dup, 1) := by decide +kernel
theorem dX5_records_40 : decode cX5_records 40 = .ok (.getfield 30, 3) := by decide +kernel
theorem dX5_records_43 : decode cX5_records 43 = .ok (.iconst 1, 1) := by decide +kernel
theorem dX5_records_44 : decode cX5_records 44 = .ok (.isub, 1) := by decide +kernel
theorem dX5_records_45 : decode cX5_records 45 = .ok (.putfield 30, 3) := by decide +kernel
theorem dX5_records_48 : decode cX5_records 48 = .ok (.iconst 0, 1) := by decide +kernel
theorem dX5_records_49 : decode cX5_records 49 = .ok (.istore_n 1, 1) := by decide +kernel
theorem dX5_records_50 : decode cX5_records 50 = .ok (.iload_n 1, 1) := by decide +kernel
theorem dX5_records_51 : decode cX5_records 51 = .ok (.bipush 65, 2) := by decide +kernel
theorem dX5_records_53 : decode cX5_records 53 = .ok (.if_icmp .ge 29, 3) := by decide +kernel
theorem dX5_records_56 : decode cX5_records 56 = .ok (.aload_n 0, 1) := by decide +kernel
theorem dX5_records_57 : decode cX5_records 57 = .ok (.getfield 13, 3) := by decide +kernel
theorem dX5_records_60 : decode cX5_records 60 = .ok (.bipush 65, 2) := by decide +kernel
theorem dX5_records_62 : decode cX5_records 62 = .ok (.aload_n 0, 1) := by decide +kernel
theorem dX5_records_63 : decode cX5_records 63 = .ok (.getfield 30, 3) := by decide +kernel
theorem dX5_records_66 : decode cX5_records 66 = .ok (.imul, 1) := by decide +kernel
theorem dX5_records_67 : decode cX5_records 67 = .ok (.iload_n 1, 1) := by decide +kernel
theorem dX5_records_68 : decode cX5_records 68 = .ok (.iadd, 1) := by decide +kernel
theorem dX5_records_69 : decode cX5_records 69 = .ok (.aload_n 0, 1) := by decide +kernel
theorem dX5_records_70 : decode cX5_records 70 = .ok (.getfield 7, 3) := by decide +kernel
theorem dX5_records_73 : decode cX5_records 73 = .ok (.iload_n 1, 1) := by decide +kernel
theorem dX5_records_74 : decode cX5_records 74 = .ok (.iaload, 1) := by decide +kernel
theorem dX5_records_75 : decode cX5_records 75 = .ok (.iastore, 1) := by decide +kernel
theorem dX5_records_76 : decode cX5_records 76 = .ok (.iinc 1 1, 3) := by decide +kernel
theorem dX5_records_79 : decode cX5_records 79 = .ok (.goto (-29), 3) := by decide +kernel
theorem dX5_records_82 : decode cX5_records 82 = .ok (.aload_n 0, 1) := by decide +kernel
theorem dX5_records_83 : decode cX5_records 83 = .ok (.dup, 1) := by decide +kernel
theorem dX5_records_84 : decode cX5_records 84 = .ok (.getfield 30, 3) := by decide +kernel
theorem dX5_records_87 : decode cX5_records 87 = .ok (.iconst 1, 1) := by decide +kernel
theorem dX5_records_88 : decode cX5_records 88 = .ok (.iadd, 1) := by decide +kernel
theorem dX5_records_89 : decode cX5_records 89 = .ok (.putfield 30, 3) := by decide +kernel
theorem dX5_records_92 : decode cX5_records 92 = .ok (.return_, 1) := by decide +kernel
theorem dX5_longOf_0 : decode cX5_longOf 0 = .ok (.iconst 1, 1) := by decide +kernel
theorem dX5_longOf_1 : decode cX5_longOf 1 = .ok (.istore_n 2, 1) := by decide +kernel
theorem dX5_longOf_2 : decode cX5_longOf 2 = .ok (.aload_n 0, 1) := by decide +kernel
theorem dX5_longOf_3 : decode cX5_longOf 3 = .ok (.getfield 7, 3) := by decide +kernel
theorem dX5_longOf_6 : decode cX5_longOf 6 = .ok (.iconst 0, 1) := by decide +kernel
theorem dX5_longOf_7 : decode cX5_longOf 7 = .ok (.iload_n 1, 1) := by decide +kernel
theorem dX5_longOf_8 : decode cX5_longOf 8 = .ok (.iadd, 1) := by decide +kernel
theorem dX5_longOf_9 : decode cX5_longOf 9 = .ok (.iaload, 1) := by decide +kernel
theorem dX5_longOf_10 : decode cX5_longOf 10 = .ok (.istore_n 3, 1) := by decide +kernel
theorem dX5_longOf_11 : decode cX5_longOf 11 = .ok (.iload_n 3, 1) := by decide +kernel
theorem dX5_longOf_12 : decode cX5_longOf 12 = .ok (.iload_n 1, 1) := by decide +kernel
theorem dX5_longOf_13 : decode cX5_longOf 13 = .ok (.if_icmp .eq 18, 3) := by decide +kernel
theorem dX5_longOf_16 : decode cX5_longOf 16 = .ok (.iinc 2 1, 3) := by decide +kernel
theorem dX5_longOf_19 : decode cX5_longOf 19 = .ok (.aload_n 0, 1) := by decide +kernel
theorem dX5_longOf_20 : decode cX5_longOf 20 = .ok (.getfield 7, 3) := by decide +kernel
theorem dX5_longOf_23 : decode cX5_longOf 23 = .ok (.iconst 0, 1) := by decide +kernel
theorem dX5_longOf_24 : decode cX5_longOf 24 = .ok (.iload_n 3, 1) := by decide +kernel
theorem dX5_longOf_25 : decode cX5_longOf 25 = .ok (.iadd, 1) := by decide +kernel
theorem dX5_longOf_26 : decode cX5_longOf 26 = .ok (.iaload, 1) := by decide +kernel
theorem dX5_longOf_27 : decode cX5_longOf 27 = .ok (.istore_n 3, 1) := by decide +kernel
theorem dX5_longOf_28 : decode cX5_longOf 28 = .ok (.goto (-17), 3) := by decide +kernel
theorem dX5_longOf_31 : decode cX5_longOf 31 = .ok (.iload_n 2, 1) := by decide +kernel
theorem dX5_longOf_32 : decode cX5_longOf 32 = .ok (.ireturn, 1) := by decide +kernel
theorem dX5_lowestOf_0 : decode cX5_lowestOf 0 = .ok (.iload_n 1, 1) := by decide +kernel
theorem dX5_lowestOf_1 : decode cX5_lowestOf 1 = .ok (.istore_n 2, 1) := by decide +kernel
theorem dX5_lowestOf_2 : decode cX5_lowestOf 2 = .ok (.aload_n 0, 1) := by decide +kernel
theorem dX5_lowestOf_3 : decode cX5_lowestOf 3 = .ok (.getfield 7, 3) := by decide +kernel
theorem dX5_lowestOf_6 : decode cX5_lowestOf 6 = .ok (.iconst 0, 1) := by decide +kernel
theorem dX5_lowestOf_7 : decode cX5_lowestOf 7 = .ok (.iload_n 1, 1) := by decide +kernel
theorem dX5_lowestOf_8 : decode cX5_lowestOf 8 = .ok (.iadd, 1) := by decide +kernel
theorem dX5_lowestOf_9 : decode cX5_lowestOf 9 = .ok (.iaload, 1) := by decide +kernel
theorem dX5_lowestOf_10 : decode cX5_lowestOf 10 = .ok (.istore_n 3, 1) := by decide +kernel
theorem dX5_lowestOf_11 : decode cX5_lowestOf 11 = .ok (.iload_n 3, 1) := by decide +kernel
theorem dX5_lowestOf_12 : decode cX5_lowestOf 12 = .ok (.iload_n 1, 1) := by decide +kernel
theorem dX5_lowestOf_13 : decode cX5_lowestOf 13 = .ok (.if_icmp .eq 26, 3) := by decide +kernel
theorem dX5_lowestOf_16 : decode cX5_lowestOf 16 = .ok (.iload_n 3, 1) := by decide +kernel
theorem dX5_lowestOf_17 : decode cX5_lowestOf 17 = .ok (.iload_n 2, 1) := by decide +kernel
theorem dX5_lowestOf_18 : decode cX5_lowestOf 18 = .ok (.if_icmp .ge 7, 3) := by decide +kernel
theorem dX5_lowestOf_21 : decode cX5_lowestOf 21 = .ok (.iload_n 3, 1) := by decide +kernel
theorem dX5_lowestOf_22 : decode cX5_lowestOf 22 = .ok (.goto 4, 3) := by decide +kernel
theorem dX5_lowestOf_25 : decode cX5_lowestOf 25 = .ok (.iload_n 2, 1) := by decide +kernel
theorem dX5_lowestOf_26 : decode cX5_lowestOf 26 = .ok (.istore_n 2, 1) := by decide +kernel
theorem dX5_lowestOf_27 : decode cX5_lowestOf 27 = .ok (.aload_n 0, 1) := by decide +kernel
theorem dX5_lowestOf_28 : decode cX5_lowestOf 28 = .ok (.getfield 7, 3) := by decide +kernel
theorem dX5_lowestOf_31 : decode cX5_lowestOf 31 = .ok (.iconst 0, 1) := by decide +kernel
theorem dX5_lowestOf_32 : decode cX5_lowestOf 32 = .ok (.iload_n 3, 1) := by decide +kernel
theorem dX5_lowestOf_33 : decode cX5_lowestOf 33 = .ok (.iadd, 1) := by decide +kernel
theorem dX5_lowestOf_34 : decode cX5_lowestOf 34 = .ok (.iaload, 1) := by decide +kernel
theorem dX5_lowestOf_35 : decode cX5_lowestOf 35 = .ok (.istore_n 3, 1) := by decide +kernel
theorem dX5_lowestOf_36 : decode cX5_lowestOf 36 = .ok (.goto (-25), 3) := by decide +kernel
theorem dX5_lowestOf_39 : decode cX5_lowestOf 39 = .ok (.iload_n 2, 1) := by decide +kernel
theorem dX5_lowestOf_40 : decode cX5_lowestOf 40 = .ok (.ireturn, 1) := by decide +kernel
theorem dX5_roundOf_0 : decode cX5_roundOf 0 = .ok (.iconst 1, 1) := by decide +kernel
theorem dX5_roundOf_1 : decode cX5_roundOf 1 = .ok (.iload_n 1, 1) := by decide +kernel
theorem dX5_roundOf_2 : decode cX5_roundOf 2 = .ok (.ishl, 1) := by decide +kernel
theorem dX5_roundOf_3 : decode cX5_roundOf 3 = .ok (.istore_n 2, 1) := by decide +kernel
theorem dX5_roundOf_4 : decode cX5_roundOf 4 = .ok (.aload_n 0, 1) := by decide +kernel
theorem dX5_roundOf_5 : decode cX5_roundOf 5 = .ok (.getfield 7, 3) := by decide +kernel
theorem dX5_roundOf_8 : decode cX5_roundOf 8 = .ok (.iconst 0, 1) := by decide +kernel
theorem dX5_roundOf_9 : decode cX5_roundOf 9 = .ok (.iload_n 1, 1) := by decide +kernel
theorem dX5_roundOf_10 : decode cX5_roundOf 10 = .ok (.iadd, 1) := by decide +kernel
theorem dX5_roundOf_11 : decode cX5_roundOf 11 = .ok (.iaload, 1) := by decide +kernel
theorem dX5_roundOf_12 : decode cX5_roundOf 12 = .ok (.istore_n 3, 1) := by decide +kernel
theorem dX5_roundOf_13 : decode cX5_roundOf 13 = .ok (.iload_n 3, 1) := by decide +kernel
theorem dX5_roundOf_14 : decode cX5_roundOf 14 = .ok (.iload_n 1, 1) := by decide +kernel
theorem dX5_roundOf_15 : decode cX5_roundOf 15 = .ok (.if_icmp .eq 21, 3) := by decide +kernel
theorem dX5_roundOf_18 : decode cX5_roundOf 18 = .ok (.iload_n 2, 1) := by decide +kernel
theorem dX5_roundOf_19 : decode cX5_roundOf 19 = .ok (.iconst 1, 1) := by decide +kernel
theorem dX5_roundOf_20 : decode cX5_roundOf 20 = .ok (.iload_n 3, 1) := by decide +kernel
theorem dX5_roundOf_21 : decode cX5_roundOf 21 = .ok (.ishl, 1) := by decide +kernel
theorem dX5_roundOf_22 : decode cX5_roundOf 22 = .ok (.ior, 1) := by decide +kernel
theorem dX5_roundOf_23 : decode cX5_roundOf 23 = .ok (.istore_n 2, 1) := by decide +kernel
theorem dX5_roundOf_24 : decode cX5_roundOf 24 = .ok (.aload_n 0, 1) := by decide +kernel
theorem dX5_roundOf_25 : decode cX5_roundOf 25 = .ok (.getfield 7, 3) := by decide +kernel
theorem dX5_roundOf_28 : decode cX5_roundOf 28 = .ok (.iconst 0, 1) := by decide +kernel
theorem dX5_roundOf_29 : decode cX5_roundOf 29 = .ok (.iload_n 3, 1) := by decide +kernel
theorem dX5_roundOf_30 : decode cX5_roundOf 30 = .ok (.iadd, 1) := by decide +kernel
theorem dX5_roundOf_31 : decode cX5_roundOf 31 = .ok (.iaload, 1) := by decide +kernel
theorem dX5_roundOf_32 : decode cX5_roundOf 32 = .ok (.istore_n 3, 1) := by decide +kernel
theorem dX5_roundOf_33 : decode cX5_roundOf 33 = .ok (.goto (-20), 3) := by decide +kernel
theorem dX5_roundOf_36 : decode cX5_roundOf 36 = .ok (.iload_n 2, 1) := by decide +kernel
theorem dX5_roundOf_37 : decode cX5_roundOf 37 = .ok (.ireturn, 1) := by decide +kernel
theorem dX5_sourceOf_0 : decode cX5_sourceOf 0 = .ok (.iconst 0, 1) := by decide +kernel
theorem dX5_sourceOf_1 : decode cX5_sourceOf 1 = .ok (.istore_n 2, 1) := by decide +kernel
theorem dX5_sourceOf_2 : decode cX5_sourceOf 2 = .ok (.iconst 0, 1) := by decide +kernel
theorem dX5_sourceOf_3 : decode cX5_sourceOf 3 = .ok (.istore_n 3, 1) := by decide +kernel
theorem dX5_sourceOf_4 : decode cX5_sourceOf 4 = .ok (.iload_n 3, 1) := by decide +kernel
theorem dX5_sourceOf_5 : decode cX5_sourceOf 5 = .ok (.bipush 24, 2) := by decide +kernel
theorem dX5_sourceOf_7 : decode cX5_sourceOf 7 = .ok (.if_icmp .ge 27, 3) := by decide +kernel
theorem dX5_sourceOf_10 : decode cX5_sourceOf 10 = .ok (.aload_n 0, 1) := by decide +kernel
theorem dX5_sourceOf_11 : decode cX5_sourceOf 11 = .ok (.getfield 7, 3) := by decide +kernel
theorem dX5_sourceOf_14 : decode cX5_sourceOf 14 = .ok (.iconst 0, 1) := by decide +kernel
theorem dX5_sourceOf_15 : decode cX5_sourceOf 15 = .ok (.iload_n 3, 1) := by decide +kernel
theorem dX5_sourceOf_16 : decode cX5_sourceOf 16 = .ok (.iadd, 1) := by decide +kernel
theorem dX5_sourceOf_17 : decode cX5_sourceOf 17 = .ok (.iaload, 1) := by decide +kernel
theorem dX5_sourceOf_18 : decode cX5_sourceOf 18 = .ok (.iload_n 1, 1) := by decide +kernel
theorem dX5_sourceOf_19 : decode cX5_sourceOf 19 = .ok (.if_icmp .ne 7, 3) := by decide +kernel
theorem dX5_sourceOf_22 : decode cX5_sourceOf 22 = .ok (.iload_n 3, 1) := by decide +kernel
theorem dX5_sourceOf_23 : decode cX5_sourceOf 23 = .ok (.goto 4, 3) := by decide +kernel
theorem dX5_sourceOf_26 : decode cX5_sourceOf 26 = .ok (.iload_n 2, 1) := by decide +kernel
theorem dX5_sourceOf_27 : decode cX5_sourceOf 27 = .ok (.istore_n 2, 1) := by decide +kernel
theorem dX5_sourceOf_28 : decode cX5_sourceOf 28 = .ok (.iinc 3 1, 3) := by decide +kernel
theorem dX5_sourceOf_31 : decode cX5_sourceOf 31 = .ok (.goto (-27), 3) := by decide +kernel
theorem dX5_sourceOf_34 : decode cX5_sourceOf 34 = .ok (.iload_n 2, 1) := by decide +kernel
theorem dX5_sourceOf_35 : decode cX5_sourceOf 35 = .ok (.ireturn, 1) := by decide +kernel
theorem dX5_order_0 : decode cX5_order 0 = .ok (.iconst 1, 1) := by decide +kernel
theorem dX5_order_1 : decode cX5_order 1 = .ok (.istore_n 1, 1) := by decide +kernel
theorem dX5_order_2 : decode cX5_order 2 = .ok (.iconst 0, 1) := by decide +kernel
theorem dX5_order_3 : decode cX5_order 3 = .ok (.istore_n 2, 1) := by decide +kernel
theorem dX5_order_4 : decode cX5_order 4 = .ok (.iload_n 2, 1) := by decide +kernel
theorem dX5_order_5 : decode cX5_order 5 = .ok (.bipush 24, 2) := by decide +kernel
theorem dX5_order_7 : decode cX5_order 7 = .ok (.if_icmp .ge 37, 3) := by decide +kernel
theorem dX5_order_10 : decode cX5_order 10 = .ok (.aload_n 0, 1) := by decide +kernel
theorem dX5_order_11 : decode cX5_order 11 = .ok (.iload_n 2, 1) := by decide +kernel
theorem dX5_order_12 : decode cX5_order 12 = .ok (.invokevirtual 34, 3) := by decide +kernel
theorem dX5_order_15 : decode cX5_order 15 = .ok (.istore_n 3, 1) := by decide +kernel
theorem dX5_order_16 : decode cX5_order 16 = .ok (.iload_n 1, 1) := by decide +kernel
theorem dX5_order_17 : decode cX5_order 17 = .ok (.istore 4, 2) := by decide +kernel
theorem dX5_order_19 : decode cX5_order 19 = .ok (.iload 4, 2) := by decide +kernel
theorem dX5_order_21 : decode cX5_order 21 = .ok (.iload_n 3, 1) := by decide +kernel
theorem dX5_order_22 : decode cX5_order 22 = .ok (.irem, 1) := by decide +kernel
theorem dX5_order_23 : decode cX5_order 23 = .ok (.ifCond .eq 12, 3) := by decide +kernel
theorem dX5_order_26 : decode cX5_order 26 = .ok (.iload 4, 2) := by decide +kernel
theorem dX5_order_28 : decode cX5_order 28 = .ok (.iload_n 1, 1) := by decide +kernel
theorem dX5_order_29 : decode cX5_order 29 = .ok (.iadd, 1) := by decide +kernel
theorem dX5_order_30 : decode cX5_order 30 = .ok (.istore 4, 2) := by decide +kernel
theorem dX5_order_32 : decode cX5_order 32 = .ok (.goto (-13), 3) := by decide +kernel
theorem dX5_order_35 : decode cX5_order 35 = .ok (.iload 4, 2) := by decide +kernel
theorem dX5_order_37 : decode cX5_order 37 = .ok (.istore_n 1, 1) := by decide +kernel
theorem dX5_order_38 : decode cX5_order 38 = .ok (.iinc 2 1, 3) := by decide +kernel
theorem dX5_order_41 : decode cX5_order 41 = .ok (.goto (-37), 3) := by decide +kernel
theorem dX5_order_44 : decode cX5_order 44 = .ok (.iload_n 1, 1) := by decide +kernel
theorem dX5_order_45 : decode cX5_order 45 = .ok (.ireturn, 1) := by decide +kernel
theorem dX5_moved_0 : decode cX5_moved 0 = .ok (.iconst 0, 1) := by decide +kernel
theorem dX5_moved_1 : decode cX5_moved 1 = .ok (.istore_n 2, 1) := by decide +kernel
theorem dX5_moved_2 : decode cX5_moved 2 = .ok (.iconst 0, 1) := by decide +kernel
theorem dX5_moved_3 : decode cX5_moved 3 = .ok (.istore_n 3, 1) := by decide +kernel
theorem dX5_moved_4 : decode cX5_moved 4 = .ok (.iload_n 3, 1) := by decide +kernel
theorem dX5_moved_5 : decode cX5_moved 5 = .ok (.bipush 24, 2) := by decide +kernel
theorem dX5_moved_7 : decode cX5_moved 7 = .ok (.if_icmp .ge 26, 3) := by decide +kernel
theorem dX5_moved_10 : decode cX5_moved 10 = .ok (.iload_n 2, 1) := by decide +kernel
theorem dX5_moved_11 : decode cX5_moved 11 = .ok (.iload_n 1, 1) := by decide +kernel
theorem dX5_moved_12 : decode cX5_moved 12 = .ok (.iload_n 3, 1) := by decide +kernel
theorem dX5_moved_13 : decode cX5_moved 13 = .ok (.ishr, 1) := by decide +kernel
theorem dX5_moved_14 : decode cX5_moved 14 = .ok (.iconst 1, 1) := by decide +kernel
theorem dX5_moved_15 : decode cX5_moved 15 = .ok (.iand, 1) := by decide +kernel
theorem dX5_moved_16 : decode cX5_moved 16 = .ok (.aload_n 0, 1) := by decide +kernel
theorem dX5_moved_17 : decode cX5_moved 17 = .ok (.getfield 7, 3) := by decide +kernel
theorem dX5_moved_20 : decode cX5_moved 20 = .ok (.iconst 0, 1) := by decide +kernel
theorem dX5_moved_21 : decode cX5_moved 21 = .ok (.iload_n 3, 1) := by decide +kernel
theorem dX5_moved_22 : decode cX5_moved 22 = .ok (.iadd, 1) := by decide +kernel
theorem dX5_moved_23 : decode cX5_moved 23 = .ok (.iaload, 1) := by decide +kernel
theorem dX5_moved_24 : decode cX5_moved 24 = .ok (.ishl, 1) := by decide +kernel
theorem dX5_moved_25 : decode cX5_moved 25 = .ok (.ior, 1) := by decide +kernel
theorem dX5_moved_26 : decode cX5_moved 26 = .ok (.istore_n 2, 1) := by decide +kernel
theorem dX5_moved_27 : decode cX5_moved 27 = .ok (.iinc 3 1, 3) := by decide +kernel
theorem dX5_moved_30 : decode cX5_moved 30 = .ok (.goto (-26), 3) := by decide +kernel
theorem dX5_moved_33 : decode cX5_moved 33 = .ok (.iload_n 2, 1) := by decide +kernel
theorem dX5_moved_34 : decode cX5_moved 34 = .ok (.ireturn, 1) := by decide +kernel
theorem dX5_forward_0 : decode cX5_forward 0 = .ok (.aload_n 0, 1) := by decide +kernel
theorem dX5_forward_1 : decode cX5_forward 1 = .ok (.invokevirtual 38, 3) := by decide +kernel
theorem dX5_forward_4 : decode cX5_forward 4 = .ok (.istore_n 2, 1) := by decide +kernel
theorem dX5_forward_5 : decode cX5_forward 5 = .ok (.iload_n 1, 1) := by decide +kernel
theorem dX5_forward_6 : decode cX5_forward 6 = .ok (.iload_n 2, 1) := by decide +kernel
theorem dX5_forward_7 : decode cX5_forward 7 = .ok (.irem, 1) := by decide +kernel
theorem dX5_forward_8 : decode cX5_forward 8 = .ok (.istore_n 3, 1) := by decide +kernel
theorem dX5_forward_9 : decode cX5_forward 9 = .ok (.iload_n 3, 1) := by decide +kernel
theorem dX5_forward_10 : decode cX5_forward 10 = .ok (.ifCond .ge 9, 3) := by decide +kernel
theorem dX5_forward_13 : decode cX5_forward 13 = .ok (.iload_n 3, 1) := by decide +kernel
theorem dX5_forward_14 : decode cX5_forward 14 = .ok (.iload_n 2, 1) := by decide +kernel
theorem dX5_forward_15 : decode cX5_forward 15 = .ok (.iadd, 1) := by decide +kernel
theorem dX5_forward_16 : decode cX5_forward 16 = .ok (.goto 4, 3) := by decide +kernel
theorem dX5_forward_19 : decode cX5_forward 19 = .ok (.iload_n 3, 1) := by decide +kernel
theorem dX5_forward_20 : decode cX5_forward 20 = .ok (.ireturn, 1) := by decide +kernel
theorem dX5_turned_0 : decode cX5_turned 0 = .ok (.iload_n 1, 1) := by decide +kernel
theorem dX5_turned_1 : decode cX5_turned 1 = .ok (.istore_n 3, 1) := by decide +kernel
theorem dX5_turned_2 : decode cX5_turned 2 = .ok (.iconst 0, 1) := by decide +kernel
theorem dX5_turned_3 : decode cX5_turned 3 = .ok (.istore 4, 2) := by decide +kernel
theorem dX5_turned_5 : decode cX5_turned 5 = .ok (.iload 4, 2) := by decide +kernel
theorem dX5_turned_7 : decode cX5_turned 7 = .ok (.iload_n 2, 1) := by decide +kernel
theorem dX5_turned_8 : decode cX5_turned 8 = .ok (.if_icmp .ge 15, 3) := by decide +kernel
theorem dX5_turned_11 : decode cX5_turned 11 = .ok (.aload_n 0, 1) := by decide +kernel
theorem dX5_turned_12 : decode cX5_turned 12 = .ok (.iload_n 3, 1) := by decide +kernel
theorem dX5_turned_13 : decode cX5_turned 13 = .ok (.invokevirtual 42, 3) := by decide +kernel
theorem dX5_turned_16 : decode cX5_turned 16 = .ok (.istore_n 3, 1) := by decide +kernel
theorem dX5_turned_17 : decode cX5_turned 17 = .ok (.iinc 4 1, 3) := by decide +kernel
theorem dX5_turned_20 : decode cX5_turned 20 = .ok (.goto (-15), 3) := by decide +kernel
theorem dX5_turned_23 : decode cX5_turned 23 = .ok (.iload_n 3, 1) := by decide +kernel
theorem dX5_turned_24 : decode cX5_turned 24 = .ok (.ireturn, 1) := by decide +kernel
theorem dX5_exchange_0 : decode cX5_exchange 0 = .ok (.iload_n 1, 1) := by decide +kernel
theorem dX5_exchange_1 : decode cX5_exchange 1 = .ok (.invokestatic 45, 3) := by decide +kernel
theorem dX5_exchange_4 : decode cX5_exchange 4 = .ok (.ifCond .eq 10, 3) := by decide +kernel
theorem dX5_exchange_7 : decode cX5_exchange 7 = .ok (.iload_n 2, 1) := by decide +kernel
theorem dX5_exchange_8 : decode cX5_exchange 8 = .ok (.invokestatic 45, 3) := by decide +kernel
theorem dX5_exchange_11 : decode cX5_exchange 11 = .ok (.ifCond .ne 5, 3) := by decide +kernel
theorem dX5_exchange_14 : decode cX5_exchange 14 = .ok (.iconst (-1), 1) := by decide +kernel
theorem dX5_exchange_15 : decode cX5_exchange 15 = .ok (.ireturn, 1) := by decide +kernel
theorem dX5_exchange_16 : decode cX5_exchange 16 = .ok (.iload_n 1, 1) := by decide +kernel
theorem dX5_exchange_17 : decode cX5_exchange 17 = .ok (.iload_n 2, 1) := by decide +kernel
theorem dX5_exchange_18 : decode cX5_exchange 18 = .ok (.if_icmp .ne 6, 3) := by decide +kernel
theorem dX5_exchange_21 : decode cX5_exchange 21 = .ok (.bipush (-5), 2) := by decide +kernel
theorem dX5_exchange_23 : decode cX5_exchange 23 = .ok (.ireturn, 1) := by decide +kernel
theorem dX5_exchange_24 : decode cX5_exchange 24 = .ok (.aload_n 0, 1) := by decide +kernel
theorem dX5_exchange_25 : decode cX5_exchange 25 = .ok (.invokevirtual 49, 3) := by decide +kernel
theorem dX5_exchange_28 : decode cX5_exchange 28 = .ok (.aload_n 0, 1) := by decide +kernel
theorem dX5_exchange_29 : decode cX5_exchange 29 = .ok (.getfield 7, 3) := by decide +kernel
theorem dX5_exchange_32 : decode cX5_exchange 32 = .ok (.iconst 0, 1) := by decide +kernel
theorem dX5_exchange_33 : decode cX5_exchange 33 = .ok (.iload_n 1, 1) := by decide +kernel
theorem dX5_exchange_34 : decode cX5_exchange 34 = .ok (.iadd, 1) := by decide +kernel
theorem dX5_exchange_35 : decode cX5_exchange 35 = .ok (.iaload, 1) := by decide +kernel
theorem dX5_exchange_36 : decode cX5_exchange 36 = .ok (.istore_n 3, 1) := by decide +kernel
theorem dX5_exchange_37 : decode cX5_exchange 37 = .ok (.aload_n 0, 1) := by decide +kernel
theorem dX5_exchange_38 : decode cX5_exchange 38 = .ok (.getfield 7, 3) := by decide +kernel
theorem dX5_exchange_41 : decode cX5_exchange 41 = .ok (.iconst 0, 1) := by decide +kernel
theorem dX5_exchange_42 : decode cX5_exchange 42 = .ok (.iload_n 1, 1) := by decide +kernel
theorem dX5_exchange_43 : decode cX5_exchange 43 = .ok (.iadd, 1) := by decide +kernel
theorem dX5_exchange_44 : decode cX5_exchange 44 = .ok (.aload_n 0, 1) := by decide +kernel
theorem dX5_exchange_45 : decode cX5_exchange 45 = .ok (.getfield 7, 3) := by decide +kernel
theorem dX5_exchange_48 : decode cX5_exchange 48 = .ok (.iconst 0, 1) := by decide +kernel
theorem dX5_exchange_49 : decode cX5_exchange 49 = .ok (.iload_n 2, 1) := by decide +kernel
theorem dX5_exchange_50 : decode cX5_exchange 50 = .ok (.iadd, 1) := by decide +kernel
theorem dX5_exchange_51 : decode cX5_exchange 51 = .ok (.iaload, 1) := by decide +kernel
theorem dX5_exchange_52 : decode cX5_exchange 52 = .ok (.iastore, 1) := by decide +kernel
theorem dX5_exchange_53 : decode cX5_exchange 53 = .ok (.aload_n 0, 1) := by decide +kernel
theorem dX5_exchange_54 : decode cX5_exchange 54 = .ok (.getfield 7, 3) := by decide +kernel
theorem dX5_exchange_57 : decode cX5_exchange 57 = .ok (.iconst 0, 1) := by decide +kernel
theorem dX5_exchange_58 : decode cX5_exchange 58 = .ok (.iload_n 2, 1) := by decide +kernel
theorem dX5_exchange_59 : decode cX5_exchange 59 = .ok (.iadd, 1) := by decide +kernel
theorem dX5_exchange_60 : decode cX5_exchange 60 = .ok (.iload_n 3, 1) := by decide +kernel
theorem dX5_exchange_61 : decode cX5_exchange 61 = .ok (.iastore, 1) := by decide +kernel
theorem dX5_exchange_62 : decode cX5_exchange 62 = .ok (.aload_n 0, 1) := by decide +kernel
theorem dX5_exchange_63 : decode cX5_exchange 63 = .ok (.invokevirtual 38, 3) := by decide +kernel
theorem dX5_exchange_66 : decode cX5_exchange 66 = .ok (.ireturn, 1) := by decide +kernel
theorem dX5_takes_0 : decode cX5_takes 0 = .ok (.aload_n 0, 1) := by decide +kernel
theorem dX5_takes_1 : decode cX5_takes 1 = .ok (.invokevirtual 49, 3) := by decide +kernel
theorem dX5_takes_4 : decode cX5_takes 4 = .ok (.iconst 0, 1) := by decide +kernel
theorem dX5_takes_5 : decode cX5_takes 5 = .ok (.istore_n 1, 1) := by decide +kernel
theorem dX5_takes_6 : decode cX5_takes 6 = .ok (.iload_n 1, 1) := by decide +kernel
theorem dX5_takes_7 : decode cX5_takes 7 = .ok (.bipush 24, 2) := by decide +kernel
theorem dX5_takes_9 : decode cX5_takes 9 = .ok (.if_icmp .ge 23, 3) := by decide +kernel
theorem dX5_takes_12 : decode cX5_takes 12 = .ok (.aload_n 0, 1) := by decide +kernel
theorem dX5_takes_13 : decode cX5_takes 13 = .ok (.getfield 7, 3) := by decide +kernel
theorem dX5_takes_16 : decode cX5_takes 16 = .ok (.iconst 0, 1) := by decide +kernel
theorem dX5_takes_17 : decode cX5_takes 17 = .ok (.iload_n 1, 1) := by decide +kernel
theorem dX5_takes_18 : decode cX5_takes 18 = .ok (.iadd, 1) := by decide +kernel
theorem dX5_takes_19 : decode cX5_takes 19 = .ok (.aload_n 0, 1) := by decide +kernel
theorem dX5_takes_20 : decode cX5_takes 20 = .ok (.getfield 23, 3) := by decide +kernel
theorem dX5_takes_23 : decode cX5_takes 23 = .ok (.iload_n 1, 1) := by decide +kernel
theorem dX5_takes_24 : decode cX5_takes 24 = .ok (.iaload, 1) := by decide +kernel
theorem dX5_takes_25 : decode cX5_takes 25 = .ok (.iastore, 1) := by decide +kernel
theorem dX5_takes_26 : decode cX5_takes 26 = .ok (.iinc 1 1, 3) := by decide +kernel
theorem dX5_takes_29 : decode cX5_takes 29 = .ok (.goto (-23), 3) := by decide +kernel
theorem dX5_takes_32 : decode cX5_takes 32 = .ok (.return_, 1) := by decide +kernel
theorem dX5_reverse_0 : decode cX5_reverse 0 = .ok (.iconst 1, 1) := by decide +kernel
theorem dX5_reverse_1 : decode cX5_reverse 1 = .ok (.istore_n 1, 1) := by decide +kernel
theorem dX5_reverse_2 : decode cX5_reverse 2 = .ok (.iconst 0, 1) := by decide +kernel
theorem dX5_reverse_3 : decode cX5_reverse 3 = .ok (.istore_n 2, 1) := by decide +kernel
theorem dX5_reverse_4 : decode cX5_reverse 4 = .ok (.iload_n 2, 1) := by decide +kernel
theorem dX5_reverse_5 : decode cX5_reverse 5 = .ok (.bipush 24, 2) := by decide +kernel
theorem dX5_reverse_7 : decode cX5_reverse 7 = .ok (.if_icmp .ge 47, 3) := by decide +kernel
theorem dX5_reverse_10 : decode cX5_reverse 10 = .ok (.aload_n 0, 1) := by decide +kernel
theorem dX5_reverse_11 : decode cX5_reverse 11 = .ok (.getfield 23, 3) := by decide +kernel
theorem dX5_reverse_14 : decode cX5_reverse 14 = .ok (.iload_n 2, 1) := by decide +kernel
theorem dX5_reverse_15 : decode cX5_reverse 15 = .ok (.aload_n 0, 1) := by decide +kernel
theorem dX5_reverse_16 : decode cX5_reverse 16 = .ok (.iload_n 2, 1) := by decide +kernel
theorem dX5_reverse_17 : decode cX5_reverse 17 = .ok (.invokevirtual 52, 3) := by decide +kernel
theorem dX5_reverse_20 : decode cX5_reverse 20 = .ok (.iastore, 1) := by decide +kernel
theorem dX5_reverse_21 : decode cX5_reverse 21 = .ok (.iload_n 1, 1) := by decide +kernel
theorem dX5_reverse_22 : decode cX5_reverse 22 = .ok (.ifCond .eq 24, 3) := by decide +kernel
theorem dX5_reverse_25 : decode cX5_reverse 25 = .ok (.aload_n 0, 1) := by decide +kernel
theorem dX5_reverse_26 : decode cX5_reverse 26 = .ok (.getfield 23, 3) := by decide +kernel
theorem dX5_reverse_29 : decode cX5_reverse 29 = .ok (.iload_n 2, 1) := by decide +kernel
theorem dX5_reverse_30 : decode cX5_reverse 30 = .ok (.iaload, 1) := by decide +kernel
theorem dX5_reverse_31 : decode cX5_reverse 31 = .ok (.aload_n 0, 1) := by decide +kernel
theorem dX5_reverse_32 : decode cX5_reverse 32 = .ok (.getfield 7, 3) := by decide +kernel
theorem dX5_reverse_35 : decode cX5_reverse 35 = .ok (.iconst 0, 1) := by decide +kernel
theorem dX5_reverse_36 : decode cX5_reverse 36 = .ok (.iload_n 2, 1) := by decide +kernel
theorem dX5_reverse_37 : decode cX5_reverse 37 = .ok (.iadd, 1) := by decide +kernel
theorem dX5_reverse_38 : decode cX5_reverse 38 = .ok (.iaload, 1) := by decide +kernel
theorem dX5_reverse_39 : decode cX5_reverse 39 = .ok (.if_icmp .ne 7, 3) := by decide +kernel
theorem dX5_reverse_42 : decode cX5_reverse 42 = .ok (.iconst 1, 1) := by decide +kernel
theorem dX5_reverse_43 : decode cX5_reverse 43 = .ok (.goto 4, 3) := by decide +kernel
theorem dX5_reverse_46 : decode cX5_reverse 46 = .ok (.iconst 0, 1) := by decide +kernel
theorem dX5_reverse_47 : decode cX5_reverse 47 = .ok (.istore_n 1, 1) := by decide +kernel
theorem dX5_reverse_48 : decode cX5_reverse 48 = .ok (.iinc 2 1, 3) := by decide +kernel
theorem dX5_reverse_51 : decode cX5_reverse 51 = .ok (.goto (-47), 3) := by decide +kernel
theorem dX5_reverse_54 : decode cX5_reverse 54 = .ok (.iload_n 1, 1) := by decide +kernel
theorem dX5_reverse_55 : decode cX5_reverse 55 = .ok (.ifCond .eq 6, 3) := by decide +kernel
theorem dX5_reverse_58 : decode cX5_reverse 58 = .ok (.bipush (-5), 2) := by decide +kernel
theorem dX5_reverse_60 : decode cX5_reverse 60 = .ok (.ireturn, 1) := by decide +kernel
theorem dX5_reverse_61 : decode cX5_reverse 61 = .ok (.aload_n 0, 1) := by decide +kernel
theorem dX5_reverse_62 : decode cX5_reverse 62 = .ok (.invokevirtual 55, 3) := by decide +kernel
theorem dX5_reverse_65 : decode cX5_reverse 65 = .ok (.aload_n 0, 1) := by decide +kernel
theorem dX5_reverse_66 : decode cX5_reverse 66 = .ok (.invokevirtual 38, 3) := by decide +kernel
theorem dX5_reverse_69 : decode cX5_reverse 69 = .ok (.ireturn, 1) := by decide +kernel
theorem dX5_type_0 : decode cX5_type 0 = .ok (.aload_n 0, 1) := by decide +kernel
theorem dX5_type_1 : decode cX5_type 1 = .ok (.getfield 58, 3) := by decide +kernel
theorem dX5_type_4 : decode cX5_type 4 = .ok (.bipush 80, 2) := by decide +kernel
theorem dX5_type_6 : decode cX5_type 6 = .ok (.if_icmp .ne 6, 3) := by decide +kernel
theorem dX5_type_9 : decode cX5_type 9 = .ok (.bipush (-3), 2) := by decide +kernel
theorem dX5_type_11 : decode cX5_type 11 = .ok (.ireturn, 1) := by decide +kernel
theorem dX5_type_12 : decode cX5_type 12 = .ok (.aload_n 0, 1) := by decide +kernel
theorem dX5_type_13 : decode cX5_type 13 = .ok (.getfield 19, 3) := by decide +kernel
theorem dX5_type_16 : decode cX5_type 16 = .ok (.aload_n 0, 1) := by decide +kernel
theorem dX5_type_17 : decode cX5_type 17 = .ok (.getfield 58, 3) := by decide +kernel
theorem dX5_type_20 : decode cX5_type 20 = .ok (.iload_n 1, 1) := by decide +kernel
theorem dX5_type_21 : decode cX5_type 21 = .ok (.castore, 1) := by decide +kernel
theorem dX5_type_22 : decode cX5_type 22 = .ok (.aload_n 0, 1) := by decide +kernel
theorem dX5_type_23 : decode cX5_type 23 = .ok (.dup, 1) := by decide +kernel
theorem dX5_type_24 : decode cX5_type 24 = .ok (.getfield 58, 3) := by decide +kernel
theorem dX5_type_27 : decode cX5_type 27 = .ok (.iconst 1, 1) := by decide +kernel
theorem dX5_type_28 : decode cX5_type 28 = .ok (.iadd, 1) := by decide +kernel
theorem dX5_type_29 : decode cX5_type 29 = .ok (.putfield 58, 3) := by decide +kernel
theorem dX5_type_32 : decode cX5_type 32 = .ok (.aload_n 0, 1) := by decide +kernel
theorem dX5_type_33 : decode cX5_type 33 = .ok (.getfield 58, 3) := by decide +kernel
theorem dX5_type_36 : decode cX5_type 36 = .ok (.ireturn, 1) := by decide +kernel
theorem dX5_clearText_0 : decode cX5_clearText 0 = .ok (.aload_n 0, 1) := by decide +kernel
theorem dX5_clearText_1 : decode cX5_clearText 1 = .ok (.getfield 58, 3) := by decide +kernel
theorem dX5_clearText_4 : decode cX5_clearText 4 = .ok (.istore_n 1, 1) := by decide +kernel
theorem dX5_clearText_5 : decode cX5_clearText 5 = .ok (.aload_n 0, 1) := by decide +kernel
theorem dX5_clearText_6 : decode cX5_clearText 6 = .ok (.iconst 0, 1) := by decide +kernel
theorem dX5_clearText_7 : decode cX5_clearText 7 = .ok (.putfield 58, 3) := by decide +kernel
theorem dX5_clearText_10 : decode cX5_clearText 10 = .ok (.iload_n 1, 1) := by decide +kernel
theorem dX5_clearText_11 : decode cX5_clearText 11 = .ok (.ireturn, 1) := by decide +kernel
theorem dX5_isAt_0 : decode cX5_isAt 0 = .ok (.aload_n 0, 1) := by decide +kernel
theorem dX5_isAt_1 : decode cX5_isAt 1 = .ok (.getfield 61, 3) := by decide +kernel
theorem dX5_isAt_4 : decode cX5_isAt 4 = .ok (.aload_n 0, 1) := by decide +kernel
theorem dX5_isAt_5 : decode cX5_isAt 5 = .ok (.getfield 58, 3) := by decide +kernel
theorem dX5_isAt_8 : decode cX5_isAt 8 = .ok (.if_icmp .ge 20, 3) := by decide +kernel
theorem dX5_isAt_11 : decode cX5_isAt 11 = .ok (.aload_n 0, 1) := by decide +kernel
theorem dX5_isAt_12 : decode cX5_isAt 12 = .ok (.getfield 19, 3) := by decide +kernel
theorem dX5_isAt_15 : decode cX5_isAt 15 = .ok (.aload_n 0, 1) := by decide +kernel
theorem dX5_isAt_16 : decode cX5_isAt 16 = .ok (.getfield 61, 3) := by decide +kernel
theorem dX5_isAt_19 : decode cX5_isAt 19 = .ok (.caload, 1) := by decide +kernel
theorem dX5_isAt_20 : decode cX5_isAt 20 = .ok (.iload_n 1, 1) := by decide +kernel
theorem dX5_isAt_21 : decode cX5_isAt 21 = .ok (.if_icmp .ne 7, 3) := by decide +kernel
theorem dX5_isAt_24 : decode cX5_isAt 24 = .ok (.iconst 1, 1) := by decide +kernel
theorem dX5_isAt_25 : decode cX5_isAt 25 = .ok (.goto 4, 3) := by decide +kernel
theorem dX5_isAt_28 : decode cX5_isAt 28 = .ok (.iconst 0, 1) := by decide +kernel
theorem dX5_isAt_29 : decode cX5_isAt 29 = .ok (.ireturn, 1) := by decide +kernel
theorem dX5_isDigit_0 : decode cX5_isDigit 0 = .ok (.aload_n 0, 1) := by decide +kernel
theorem dX5_isDigit_1 : decode cX5_isDigit 1 = .ok (.getfield 61, 3) := by decide +kernel
theorem dX5_isDigit_4 : decode cX5_isDigit 4 = .ok (.aload_n 0, 1) := by decide +kernel
theorem dX5_isDigit_5 : decode cX5_isDigit 5 = .ok (.getfield 58, 3) := by decide +kernel
theorem dX5_isDigit_8 : decode cX5_isDigit 8 = .ok (.if_icmp .ge 26, 3) := by decide +kernel
theorem dX5_isDigit_11 : decode cX5_isDigit 11 = .ok (.aload_n 0, 1) := by decide +kernel
theorem dX5_isDigit_12 : decode cX5_isDigit 12 = .ok (.getfield 19, 3) := by decide +kernel
theorem dX5_isDigit_15 : decode cX5_isDigit 15 = .ok (.aload_n 0, 1) := by decide +kernel
theorem dX5_isDigit_16 : decode cX5_isDigit 16 = .ok (.getfield 61, 3) := by decide +kernel
theorem dX5_isDigit_19 : decode cX5_isDigit 19 = .ok (.caload, 1) := by decide +kernel
theorem dX5_isDigit_20 : decode cX5_isDigit 20 = .ok (.bipush 48, 2) := by decide +kernel
theorem dX5_isDigit_22 : decode cX5_isDigit 22 = .ok (.bipush 57, 2) := by decide +kernel
theorem dX5_isDigit_24 : decode cX5_isDigit 24 = .ok (.invokestatic 26, 3) := by decide +kernel
theorem dX5_isDigit_27 : decode cX5_isDigit 27 = .ok (.ifCond .eq 7, 3) := by decide +kernel
theorem dX5_isDigit_30 : decode cX5_isDigit 30 = .ok (.iconst 1, 1) := by decide +kernel
theorem dX5_isDigit_31 : decode cX5_isDigit 31 = .ok (.goto 4, 3) := by decide +kernel
theorem dX5_isDigit_34 : decode cX5_isDigit 34 = .ok (.iconst 0, 1) := by decide +kernel
theorem dX5_isDigit_35 : decode cX5_isDigit 35 = .ok (.ireturn, 1) := by decide +kernel
theorem dX5_fails_0 : decode cX5_fails 0 = .ok (.aload_n 0, 1) := by decide +kernel
theorem dX5_fails_1 : decode cX5_fails 1 = .ok (.aload_n 0, 1) := by decide +kernel
theorem dX5_fails_2 : decode cX5_fails 2 = .ok (.getfield 61, 3) := by decide +kernel
theorem dX5_fails_5 : decode cX5_fails 5 = .ok (.aload_n 0, 1) := by decide +kernel
theorem dX5_fails_6 : decode cX5_fails 6 = .ok (.getfield 58, 3) := by decide +kernel
theorem dX5_fails_9 : decode cX5_fails 9 = .ok (.if_icmp .ne 7, 3) := by decide +kernel
theorem dX5_fails_12 : decode cX5_fails 12 = .ok (.iconst 1, 1) := by decide +kernel
theorem dX5_fails_13 : decode cX5_fails 13 = .ok (.goto 4, 3) := by decide +kernel
theorem dX5_fails_16 : decode cX5_fails 16 = .ok (.iconst 4, 1) := by decide +kernel
theorem dX5_fails_17 : decode cX5_fails 17 = .ok (.putfield 64, 3) := by decide +kernel
theorem dX5_fails_20 : decode cX5_fails 20 = .ok (.return_, 1) := by decide +kernel
theorem dX5_reads_0 : decode cX5_reads 0 = .ok (.aload_n 0, 1) := by decide +kernel
theorem dX5_reads_1 : decode cX5_reads 1 = .ok (.invokevirtual 67, 3) := by decide +kernel
theorem dX5_reads_4 : decode cX5_reads 4 = .ok (.ifCond .ne 8, 3) := by decide +kernel
theorem dX5_reads_7 : decode cX5_reads 7 = .ok (.aload_n 0, 1) := by decide +kernel
theorem dX5_reads_8 : decode cX5_reads 8 = .ok (.invokevirtual 71, 3) := by decide +kernel
theorem dX5_reads_11 : decode cX5_reads 11 = .ok (.return_, 1) := by decide +kernel
theorem dX5_reads_12 : decode cX5_reads 12 = .ok (.aload_n 0, 1) := by decide +kernel
theorem dX5_reads_13 : decode cX5_reads 13 = .ok (.getfield 19, 3) := by decide +kernel
theorem dX5_reads_16 : decode cX5_reads 16 = .ok (.aload_n 0, 1) := by decide +kernel
theorem dX5_reads_17 : decode cX5_reads 17 = .ok (.getfield 61, 3) := by decide +kernel
theorem dX5_reads_20 : decode cX5_reads 20 = .ok (.caload, 1) := by decide +kernel
theorem dX5_reads_21 : decode cX5_reads 21 = .ok (.bipush 48, 2) := by decide +kernel
theorem dX5_reads_23 : decode cX5_reads 23 = .ok (.isub, 1) := by decide +kernel
theorem dX5_reads_24 : decode cX5_reads 24 = .ok (.istore_n 1, 1) := by decide +kernel
theorem dX5_reads_25 : decode cX5_reads 25 = .ok (.aload_n 0, 1) := by decide +kernel
theorem dX5_reads_26 : decode cX5_reads 26 = .ok (.dup, 1) := by decide +kernel
theorem dX5_reads_27 : decode cX5_reads 27 = .ok (.getfield 61, 3) := by decide +kernel
theorem dX5_reads_30 : decode cX5_reads 30 = .ok (.iconst 1, 1) := by decide +kernel
theorem dX5_reads_31 : decode cX5_reads 31 = .ok (.iadd, 1) := by decide +kernel
theorem dX5_reads_32 : decode cX5_reads 32 = .ok (.putfield 61, 3) := by decide +kernel
theorem dX5_reads_35 : decode cX5_reads 35 = .ok (.aload_n 0, 1) := by decide +kernel
theorem dX5_reads_36 : decode cX5_reads 36 = .ok (.invokevirtual 67, 3) := by decide +kernel
theorem dX5_reads_39 : decode cX5_reads 39 = .ok (.ifCond .eq 59, 3) := by decide +kernel
theorem dX5_reads_42 : decode cX5_reads 42 = .ok (.aload_n 0, 1) := by decide +kernel
theorem dX5_reads_43 : decode cX5_reads 43 = .ok (.getfield 64, 3) := by decide +kernel
theorem dX5_reads_46 : decode cX5_reads 46 = .ok (.ifCond .ne 52, 3) := by decide +kernel
theorem dX5_reads_49 : decode cX5_reads 49 = .ok (.bipush 10, 2) := by decide +kernel
theorem dX5_reads_51 : decode cX5_reads 51 = .ok (.iload_n 1, 1) := by decide +kernel
theorem dX5_reads_52 : decode cX5_reads 52 = .ok (.imul, 1) := by decide +kernel
theorem dX5_reads_53 : decode cX5_reads 53 = .ok (.aload_n 0, 1) := by decide +kernel
theorem dX5_reads_54 : decode cX5_reads 54 = .ok (.getfield 19, 3) := by decide +kernel
theorem dX5_reads_57 : decode cX5_reads 57 = .ok (.aload_n 0, 1) := by decide +kernel
theorem dX5_reads_58 : decode cX5_reads 58 = .ok (.getfield 61, 3) := by decide +kernel
theorem dX5_reads_61 : decode cX5_reads 61 = .ok (.caload, 1) := by decide +kernel
theorem dX5_reads_62 : decode cX5_reads 62 = .ok (.iadd, 1) := by decide +kernel
theorem dX5_reads_63 : decode cX5_reads 63 = .ok (.bipush 48, 2) := by decide +kernel
theorem dX5_reads_65 : decode cX5_reads 65 = .ok (.isub, 1) := by decide +kernel
theorem dX5_reads_66 : decode cX5_reads 66 = .ok (.istore_n 2, 1) := by decide +kernel
theorem dX5_reads_67 : decode cX5_reads 67 = .ok (.iload_n 1, 1) := by decide +kernel
theorem dX5_reads_68 : decode cX5_reads 68 = .ok (.ifCond .eq 9, 3) := by decide +kernel
theorem dX5_reads_71 : decode cX5_reads 71 = .ok (.iload_n 2, 1) := by decide +kernel
theorem dX5_reads_72 : decode cX5_reads 72 = .ok (.bipush 24, 2) := by decide +kernel
theorem dX5_reads_74 : decode cX5_reads 74 = .ok (.if_icmp .lt 9, 3) := by decide +kernel
theorem dX5_reads_77 : decode cX5_reads 77 = .ok (.aload_n 0, 1) := by decide +kernel
theorem dX5_reads_78 : decode cX5_reads 78 = .ok (.iconst 2, 1) := by decide +kernel
theorem dX5_reads_79 : decode cX5_reads 79 = .ok (.putfield 64, 3) := by decide +kernel
theorem dX5_reads_82 : decode cX5_reads 82 = .ok (.return_, 1) := by decide +kernel
theorem dX5_reads_83 : decode cX5_reads 83 = .ok (.iload_n 2, 1) := by decide +kernel
theorem dX5_reads_84 : decode cX5_reads 84 = .ok (.istore_n 1, 1) := by decide +kernel
theorem dX5_reads_85 : decode cX5_reads 85 = .ok (.aload_n 0, 1) := by decide +kernel
theorem dX5_reads_86 : decode cX5_reads 86 = .ok (.dup, 1) := by decide +kernel
theorem dX5_reads_87 : decode cX5_reads 87 = .ok (.getfield 61, 3) := by decide +kernel
theorem dX5_reads_90 : decode cX5_reads 90 = .ok (.iconst 1, 1) := by decide +kernel
theorem dX5_reads_91 : decode cX5_reads 91 = .ok (.iadd, 1) := by decide +kernel
theorem dX5_reads_92 : decode cX5_reads 92 = .ok (.putfield 61, 3) := by decide +kernel
theorem dX5_reads_95 : decode cX5_reads 95 = .ok (.goto (-60), 3) := by decide +kernel
theorem dX5_reads_98 : decode cX5_reads 98 = .ok (.aload_n 0, 1) := by decide +kernel
theorem dX5_reads_99 : decode cX5_reads 99 = .ok (.getfield 74, 3) := by decide +kernel
theorem dX5_reads_102 : decode cX5_reads 102 = .ok (.iload_n 1, 1) := by decide +kernel
theorem dX5_reads_103 : decode cX5_reads 103 = .ok (.ishr, 1) := by decide +kernel
theorem dX5_reads_104 : decode cX5_reads 104 = .ok (.iconst 1, 1) := by decide +kernel
theorem dX5_reads_105 : decode cX5_reads 105 = .ok (.iand, 1) := by decide +kernel
theorem dX5_reads_106 : decode cX5_reads 106 = .ok (.iconst 1, 1) := by decide +kernel
theorem dX5_reads_107 : decode cX5_reads 107 = .ok (.if_icmp .ne 9, 3) := by decide +kernel
theorem dX5_reads_110 : decode cX5_reads 110 = .ok (.aload_n 0, 1) := by decide +kernel
theorem dX5_reads_111 : decode cX5_reads 111 = .ok (.iconst 3, 1) := by decide +kernel
theorem dX5_reads_112 : decode cX5_reads 112 = .ok (.putfield 64, 3) := by decide +kernel
theorem dX5_reads_115 : decode cX5_reads 115 = .ok (.return_, 1) := by decide +kernel
theorem dX5_reads_116 : decode cX5_reads 116 = .ok (.aload_n 0, 1) := by decide +kernel
theorem dX5_reads_117 : decode cX5_reads 117 = .ok (.dup, 1) := by decide +kernel
theorem dX5_reads_118 : decode cX5_reads 118 = .ok (.getfield 74, 3) := by decide +kernel
theorem dX5_reads_121 : decode cX5_reads 121 = .ok (.iconst 1, 1) := by decide +kernel
theorem dX5_reads_122 : decode cX5_reads 122 = .ok (.iload_n 1, 1) := by decide +kernel
theorem dX5_reads_123 : decode cX5_reads 123 = .ok (.ishl, 1) := by decide +kernel
theorem dX5_reads_124 : decode cX5_reads 124 = .ok (.ior, 1) := by decide +kernel
theorem dX5_reads_125 : decode cX5_reads 125 = .ok (.putfield 74, 3) := by decide +kernel
theorem dX5_reads_128 : decode cX5_reads 128 = .ok (.aload_n 0, 1) := by decide +kernel
theorem dX5_reads_129 : decode cX5_reads 129 = .ok (.getfield 77, 3) := by decide +kernel
theorem dX5_reads_132 : decode cX5_reads 132 = .ok (.ifCond .ne 11, 3) := by decide +kernel
theorem dX5_reads_135 : decode cX5_reads 135 = .ok (.aload_n 0, 1) := by decide +kernel
theorem dX5_reads_136 : decode cX5_reads 136 = .ok (.iload_n 1, 1) := by decide +kernel
theorem dX5_reads_137 : decode cX5_reads 137 = .ok (.putfield 80, 3) := by decide +kernel
theorem dX5_reads_140 : decode cX5_reads 140 = .ok (.goto 13, 3) := by decide +kernel
theorem dX5_reads_143 : decode cX5_reads 143 = .ok (.aload_n 0, 1) := by decide +kernel
theorem dX5_reads_144 : decode cX5_reads 144 = .ok (.getfield 23, 3) := by decide +kernel
theorem dX5_reads_147 : decode cX5_reads 147 = .ok (.aload_n 0, 1) := by decide +kernel
theorem dX5_reads_148 : decode cX5_reads 148 = .ok (.getfield 83, 3) := by decide +kernel
theorem dX5_reads_151 : decode cX5_reads 151 = .ok (.iload_n 1, 1) := by decide +kernel
theorem dX5_reads_152 : decode cX5_reads 152 = .ok (.iastore, 1) := by decide +kernel
theorem dX5_reads_153 : decode cX5_reads 153 = .ok (.aload_n 0, 1) := by decide +kernel
theorem dX5_reads_154 : decode cX5_reads 154 = .ok (.getfield 23, 3) := by decide +kernel
theorem dX5_reads_157 : decode cX5_reads 157 = .ok (.iload_n 1, 1) := by decide +kernel
theorem dX5_reads_158 : decode cX5_reads 158 = .ok (.aload_n 0, 1) := by decide +kernel
theorem dX5_reads_159 : decode cX5_reads 159 = .ok (.getfield 80, 3) := by decide +kernel
theorem dX5_reads_162 : decode cX5_reads 162 = .ok (.iastore, 1) := by decide +kernel
theorem dX5_reads_163 : decode cX5_reads 163 = .ok (.aload_n 0, 1) := by decide +kernel
theorem dX5_reads_164 : decode cX5_reads 164 = .ok (.iload_n 1, 1) := by decide +kernel
theorem dX5_reads_165 : decode cX5_reads 165 = .ok (.putfield 83, 3) := by decide +kernel
theorem dX5_reads_168 : decode cX5_reads 168 = .ok (.aload_n 0, 1) := by decide +kernel
theorem dX5_reads_169 : decode cX5_reads 169 = .ok (.dup, 1) := by decide +kernel
theorem dX5_reads_170 : decode cX5_reads 170 = .ok (.getfield 77, 3) := by decide +kernel
theorem dX5_reads_173 : decode cX5_reads 173 = .ok (.iconst 1, 1) := by decide +kernel
theorem dX5_reads_174 : decode cX5_reads 174 = .ok (.iadd, 1) := by decide +kernel
theorem dX5_reads_175 : decode cX5_reads 175 = .ok (.putfield 77, 3) := by decide +kernel
theorem dX5_reads_178 : decode cX5_reads 178 = .ok (.return_, 1) := by decide +kernel
theorem dX5_round_0 : decode cX5_round 0 = .ok (.aload_n 0, 1) := by decide +kernel
theorem dX5_round_1 : decode cX5_round 1 = .ok (.iconst 0, 1) := by decide +kernel
theorem dX5_round_2 : decode cX5_round 2 = .ok (.putfield 77, 3) := by decide +kernel
theorem dX5_round_5 : decode cX5_round 5 = .ok (.aload_n 0, 1) := by decide +kernel
theorem dX5_round_6 : decode cX5_round 6 = .ok (.bipush 40, 2) := by decide +kernel
theorem dX5_round_8 : decode cX5_round 8 = .ok (.invokevirtual 86, 3) := by decide +kernel
theorem dX5_round_11 : decode cX5_round 11 = .ok (.ifCond .ne 8, 3) := by decide +kernel
theorem dX5_round_14 : decode cX5_round 14 = .ok (.aload_n 0, 1) := by decide +kernel
theorem dX5_round_15 : decode cX5_round 15 = .ok (.invokevirtual 71, 3) := by decide +kernel
theorem dX5_round_18 : decode cX5_round 18 = .ok (.return_, 1) := by decide +kernel
theorem dX5_round_19 : decode cX5_round 19 = .ok (.iconst 1, 1) := by decide +kernel
theorem dX5_round_20 : decode cX5_round 20 = .ok (.istore_n 1, 1) := by decide +kernel
theorem dX5_round_21 : decode cX5_round 21 = .ok (.iload_n 1, 1) := by decide +kernel
theorem dX5_round_22 : decode cX5_round 22 = .ok (.ifCond .eq 42, 3) := by decide +kernel
theorem dX5_round_25 : decode cX5_round 25 = .ok (.aload_n 0, 1) := by decide +kernel
theorem dX5_round_26 : decode cX5_round 26 = .ok (.dup, 1) := by decide +kernel
theorem dX5_round_27 : decode cX5_round 27 = .ok (.getfield 61, 3) := by decide +kernel
theorem dX5_round_30 : decode cX5_round 30 = .ok (.iconst 1, 1) := by decide +kernel
theorem dX5_round_31 : decode cX5_round 31 = .ok (.iadd, 1) := by decide +kernel
theorem dX5_round_32 : decode cX5_round 32 = .ok (.putfield 61, 3) := by decide +kernel
theorem dX5_round_35 : decode cX5_round 35 = .ok (.aload_n 0, 1) := by decide +kernel
theorem dX5_round_36 : decode cX5_round 36 = .ok (.invokevirtual 90, 3) := by decide +kernel
theorem dX5_round_39 : decode cX5_round 39 = .ok (.aload_n 0, 1) := by decide +kernel
theorem dX5_round_40 : decode cX5_round 40 = .ok (.getfield 64, 3) := by decide +kernel
theorem dX5_round_43 : decode cX5_round 43 = .ok (.ifCond .ne 16, 3) := by decide +kernel
theorem dX5_round_46 : decode cX5_round 46 = .ok (.aload_n 0, 1) := by decide +kernel
theorem dX5_round_47 : decode cX5_round 47 = .ok (.bipush 44, 2) := by decide +kernel
theorem dX5_round_49 : decode cX5_round 49 = .ok (.invokevirtual 86, 3) := by decide +kernel
theorem dX5_round_52 : decode cX5_round 52 = .ok (.ifCond .eq 7, 3) := by decide +kernel
theorem dX5_round_55 : decode cX5_round 55 = .ok (.iconst 1, 1) := by decide +kernel
theorem dX5_round_56 : decode cX5_round 56 = .ok (.goto 4, 3) := by decide +kernel
theorem dX5_round_59 : decode cX5_round 59 = .ok (.iconst 0, 1) := by decide +kernel
theorem dX5_round_60 : decode cX5_round 60 = .ok (.istore_n 1, 1) := by decide +kernel
theorem dX5_round_61 : decode cX5_round 61 = .ok (.goto (-40), 3) := by decide +kernel
theorem dX5_round_64 : decode cX5_round 64 = .ok (.aload_n 0, 1) := by decide +kernel
theorem dX5_round_65 : decode cX5_round 65 = .ok (.getfield 64, 3) := by decide +kernel
theorem dX5_round_68 : decode cX5_round 68 = .ok (.ifCond .ne 37, 3) := by decide +kernel
theorem dX5_round_71 : decode cX5_round 71 = .ok (.aload_n 0, 1) := by decide +kernel
theorem dX5_round_72 : decode cX5_round 72 = .ok (.getfield 77, 3) := by decide +kernel
theorem dX5_round_75 : decode cX5_round 75 = .ok (.iconst 1, 1) := by decide +kernel
theorem dX5_round_76 : decode cX5_round 76 = .ok (.if_icmp .le 25, 3) := by decide +kernel
theorem dX5_round_79 : decode cX5_round 79 = .ok (.aload_n 0, 1) := by decide +kernel
theorem dX5_round_80 : decode cX5_round 80 = .ok (.bipush 41, 2) := by decide +kernel
theorem dX5_round_82 : decode cX5_round 82 = .ok (.invokevirtual 86, 3) := by decide +kernel
theorem dX5_round_85 : decode cX5_round 85 = .ok (.ifCond .eq 16, 3) := by decide +kernel
theorem dX5_round_88 : decode cX5_round 88 = .ok (.aload_n 0, 1) := by decide +kernel
theorem dX5_round_89 : decode cX5_round 89 = .ok (.dup, 1) := by decide +kernel
theorem dX5_round_90 : decode cX5_round 90 = .ok (.getfield 61, 3) := by decide +kernel
theorem dX5_round_93 : decode cX5_round 93 = .ok (.iconst 1, 1) := by decide +kernel
theorem dX5_round_94 : decode cX5_round 94 = .ok (.iadd, 1) := by decide +kernel
theorem dX5_round_95 : decode cX5_round 95 = .ok (.putfield 61, 3) := by decide +kernel
theorem dX5_round_98 : decode cX5_round 98 = .ok (.goto 7, 3) := by decide +kernel
theorem dX5_round_101 : decode cX5_round 101 = .ok (.aload_n 0, 1) := by decide +kernel
theorem dX5_round_102 : decode cX5_round 102 = .ok (.invokevirtual 71, 3) := by decide +kernel
theorem dX5_round_105 : decode cX5_round 105 = .ok (.return_, 1) := by decide +kernel
theorem dX5_isMove_0 : decode cX5_isMove 0 = .ok (.iconst 0, 1) := by decide +kernel
theorem dX5_isMove_1 : decode cX5_isMove 1 = .ok (.istore_n 1, 1) := by decide +kernel
theorem dX5_isMove_2 : decode cX5_isMove 2 = .ok (.iload_n 1, 1) := by decide +kernel
theorem dX5_isMove_3 : decode cX5_isMove 3 = .ok (.bipush 24, 2) := by decide +kernel
theorem dX5_isMove_5 : decode cX5_isMove 5 = .ok (.if_icmp .ge 16, 3) := by decide +kernel
theorem dX5_isMove_8 : decode cX5_isMove 8 = .ok (.aload_n 0, 1) := by decide +kernel
theorem dX5_isMove_9 : decode cX5_isMove 9 = .ok (.getfield 23, 3) := by decide +kernel
theorem dX5_isMove_12 : decode cX5_isMove 12 = .ok (.iload_n 1, 1) := by decide +kernel
theorem dX5_isMove_13 : decode cX5_isMove 13 = .ok (.iload_n 1, 1) := by decide +kernel
theorem dX5_isMove_14 : decode cX5_isMove 14 = .ok (.iastore, 1) := by decide +kernel
theorem dX5_isMove_15 : decode cX5_isMove 15 = .ok (.iinc 1 1, 3) := by decide +kernel
theorem dX5_isMove_18 : decode cX5_isMove 18 = .ok (.goto (-16), 3) := by decide +kernel
theorem dX5_isMove_21 : decode cX5_isMove 21 = .ok (.aload_n 0, 1) := by decide +kernel
theorem dX5_isMove_22 : decode cX5_isMove 22 = .ok (.iconst 0, 1) := by decide +kernel
theorem dX5_isMove_23 : decode cX5_isMove 23 = .ok (.putfield 61, 3) := by decide +kernel
theorem dX5_isMove_26 : decode cX5_isMove 26 = .ok (.aload_n 0, 1) := by decide +kernel
theorem dX5_isMove_27 : decode cX5_isMove 27 = .ok (.iconst 0, 1) := by decide +kernel
theorem dX5_isMove_28 : decode cX5_isMove 28 = .ok (.putfield 64, 3) := by decide +kernel
theorem dX5_isMove_31 : decode cX5_isMove 31 = .ok (.aload_n 0, 1) := by decide +kernel
theorem dX5_isMove_32 : decode cX5_isMove 32 = .ok (.iconst 0, 1) := by decide +kernel
theorem dX5_isMove_33 : decode cX5_isMove 33 = .ok (.putfield 74, 3) := by decide +kernel
theorem dX5_isMove_36 : decode cX5_isMove 36 = .ok (.aload_n 0, 1) := by decide +kernel
theorem dX5_isMove_37 : decode cX5_isMove 37 = .ok (.invokevirtual 93, 3) := by decide +kernel
theorem dX5_isMove_40 : decode cX5_isMove 40 = .ok (.aload_n 0, 1) := by decide +kernel
theorem dX5_isMove_41 : decode cX5_isMove 41 = .ok (.getfield 64, 3) := by decide +kernel
theorem dX5_isMove_44 : decode cX5_isMove 44 = .ok (.ifCond .ne 14, 3) := by decide +kernel
theorem dX5_isMove_47 : decode cX5_isMove 47 = .ok (.aload_n 0, 1) := by decide +kernel
theorem dX5_isMove_48 : decode cX5_isMove 48 = .ok (.getfield 61, 3) := by decide +kernel
theorem dX5_isMove_51 : decode cX5_isMove 51 = .ok (.aload_n 0, 1) := by decide +kernel
theorem dX5_isMove_52 : decode cX5_isMove 52 = .ok (.getfield 58, 3) := by decide +kernel
theorem dX5_isMove_55 : decode cX5_isMove 55 = .ok (.if_icmp .lt (-19), 3) := by decide +kernel
theorem dX5_isMove_58 : decode cX5_isMove 58 = .ok (.aload_n 0, 1) := by decide +kernel
theorem dX5_isMove_59 : decode cX5_isMove 59 = .ok (.getfield 64, 3) := by decide +kernel
theorem dX5_isMove_62 : decode cX5_isMove 62 = .ok (.ifCond .ne 7, 3) := by decide +kernel
theorem dX5_isMove_65 : decode cX5_isMove 65 = .ok (.iconst 1, 1) := by decide +kernel
theorem dX5_isMove_66 : decode cX5_isMove 66 = .ok (.goto 4, 3) := by decide +kernel
theorem dX5_isMove_69 : decode cX5_isMove 69 = .ok (.iconst 0, 1) := by decide +kernel
theorem dX5_isMove_70 : decode cX5_isMove 70 = .ok (.ireturn, 1) := by decide +kernel
theorem dX5_readMove_0 : decode cX5_readMove 0 = .ok (.aload_n 0, 1) := by decide +kernel
theorem dX5_readMove_1 : decode cX5_readMove 1 = .ok (.invokevirtual 96, 3) := by decide +kernel
theorem dX5_readMove_4 : decode cX5_readMove 4 = .ok (.ifCond .ne 11, 3) := by decide +kernel
theorem dX5_readMove_7 : decode cX5_readMove 7 = .ok (.bipush (-100), 2) := by decide +kernel
theorem dX5_readMove_9 : decode cX5_readMove 9 = .ok (.aload_n 0, 1) := by decide +kernel
theorem dX5_readMove_10 : decode cX5_readMove 10 = .ok (.getfield 61, 3) := by decide +kernel
theorem dX5_readMove_13 : decode cX5_readMove 13 = .ok (.isub, 1) := by decide +kernel
theorem dX5_readMove_14 : decode cX5_readMove 14 = .ok (.ireturn, 1) := by decide +kernel
theorem dX5_readMove_15 : decode cX5_readMove 15 = .ok (.aload_n 0, 1) := by decide +kernel
theorem dX5_readMove_16 : decode cX5_readMove 16 = .ok (.invokevirtual 55, 3) := by decide +kernel
theorem dX5_readMove_19 : decode cX5_readMove 19 = .ok (.aload_n 0, 1) := by decide +kernel
theorem dX5_readMove_20 : decode cX5_readMove 20 = .ok (.invokevirtual 38, 3) := by decide +kernel
theorem dX5_readMove_23 : decode cX5_readMove 23 = .ok (.ireturn, 1) := by decide +kernel
theorem dX5_fault_0 : decode cX5_fault 0 = .ok (.iload_n 1, 1) := by decide +kernel
theorem dX5_fault_1 : decode cX5_fault 1 = .ok (.iconst 0, 1) := by decide +kernel
theorem dX5_fault_2 : decode cX5_fault 2 = .ok (.iconst 1, 1) := by decide +kernel
theorem dX5_fault_3 : decode cX5_fault 3 = .ok (.invokestatic 26, 3) := by decide +kernel
theorem dX5_fault_6 : decode cX5_fault 6 = .ok (.ifCond .ne 6, 3) := by decide +kernel
theorem dX5_fault_9 : decode cX5_fault 9 = .ok (.bipush (-2), 2) := by decide +kernel
theorem dX5_fault_11 : decode cX5_fault 11 = .ok (.ireturn, 1) := by decide +kernel
theorem dX5_fault_12 : decode cX5_fault 12 = .ok (.aload_n 0, 1) := by decide +kernel
theorem dX5_fault_13 : decode cX5_fault 13 = .ok (.invokevirtual 96, 3) := by decide +kernel
theorem dX5_fault_16 : decode cX5_fault 16 = .ok (.ifCond .eq 6, 3) := by decide +kernel
theorem dX5_fault_19 : decode cX5_fault 19 = .ok (.bipush (-5), 2) := by decide +kernel
theorem dX5_fault_21 : decode cX5_fault 21 = .ok (.ireturn, 1) := by decide +kernel
theorem dX5_fault_22 : decode cX5_fault 22 = .ok (.iload_n 1, 1) := by decide +kernel
theorem dX5_fault_23 : decode cX5_fault 23 = .ok (.ifCond .ne 10, 3) := by decide +kernel
theorem dX5_fault_26 : decode cX5_fault 26 = .ok (.aload_n 0, 1) := by decide +kernel
theorem dX5_fault_27 : decode cX5_fault 27 = .ok (.getfield 61, 3) := by decide +kernel
theorem dX5_fault_30 : decode cX5_fault 30 = .ok (.goto 7, 3) := by decide +kernel
theorem dX5_fault_33 : decode cX5_fault 33 = .ok (.aload_n 0, 1) := by decide +kernel
theorem dX5_fault_34 : decode cX5_fault 34 = .ok (.getfield 64, 3) := by decide +kernel
theorem dX5_fault_37 : decode cX5_fault 37 = .ok (.ireturn, 1) := by decide +kernel
theorem dX5_sell_0 : decode cX5_sell 0 = .ok (.iload_n 1, 1) := by decide +kernel
theorem dX5_sell_1 : decode cX5_sell 1 = .ok (.iconst 0, 1) := by decide +kernel
theorem dX5_sell_2 : decode cX5_sell 2 = .ok (.ldc 99, 2) := by decide +kernel
theorem dX5_sell_4 : decode cX5_sell 4 = .ok (.invokestatic 26, 3) := by decide +kernel
theorem dX5_sell_7 : decode cX5_sell 7 = .ok (.ifCond .ne 6, 3) := by decide +kernel
theorem dX5_sell_10 : decode cX5_sell 10 = .ok (.bipush (-2), 2) := by decide +kernel
theorem dX5_sell_12 : decode cX5_sell 12 = .ok (.ireturn, 1) := by decide +kernel
theorem dX5_sell_13 : decode cX5_sell 13 = .ok (.aload_n 0, 1) := by decide +kernel
theorem dX5_sell_14 : decode cX5_sell 14 = .ok (.getfield 7, 3) := by decide +kernel
theorem dX5_sell_17 : decode cX5_sell 17 = .ok (.bipush 24, 2) := by decide +kernel
theorem dX5_sell_19 : decode cX5_sell 19 = .ok (.iaload, 1) := by decide +kernel
theorem dX5_sell_20 : decode cX5_sell 20 = .ok (.bipush 12, 2) := by decide +kernel
theorem dX5_sell_22 : decode cX5_sell 22 = .ok (.if_icmp .ne 6, 3) := by decide +kernel
theorem dX5_sell_25 : decode cX5_sell 25 = .ok (.bipush (-3), 2) := by decide +kernel
theorem dX5_sell_27 : decode cX5_sell 27 = .ok (.ireturn, 1) := by decide +kernel
theorem dX5_sell_28 : decode cX5_sell 28 = .ok (.aload_n 0, 1) := by decide +kernel
theorem dX5_sell_29 : decode cX5_sell 29 = .ok (.invokevirtual 49, 3) := by decide +kernel
theorem dX5_sell_32 : decode cX5_sell 32 = .ok (.aload_n 0, 1) := by decide +kernel
theorem dX5_sell_33 : decode cX5_sell 33 = .ok (.getfield 7, 3) := by decide +kernel
theorem dX5_sell_36 : decode cX5_sell 36 = .ok (.bipush 24, 2) := by decide +kernel
theorem dX5_sell_38 : decode cX5_sell 38 = .ok (.iaload, 1) := by decide +kernel
theorem dX5_sell_39 : decode cX5_sell 39 = .ok (.istore_n 2, 1) := by decide +kernel
theorem dX5_sell_40 : decode cX5_sell 40 = .ok (.aload_n 0, 1) := by decide +kernel
theorem dX5_sell_41 : decode cX5_sell 41 = .ok (.getfield 7, 3) := by decide +kernel
theorem dX5_sell_44 : decode cX5_sell 44 = .ok (.bipush 25, 2) := by decide +kernel
theorem dX5_sell_46 : decode cX5_sell 46 = .ok (.iload_n 2, 1) := by decide +kernel
theorem dX5_sell_47 : decode cX5_sell 47 = .ok (.iadd, 1) := by decide +kernel
theorem dX5_sell_48 : decode cX5_sell 48 = .ok (.iload_n 1, 1) := by decide +kernel
theorem dX5_sell_49 : decode cX5_sell 49 = .ok (.iastore, 1) := by decide +kernel
theorem dX5_sell_50 : decode cX5_sell 50 = .ok (.aload_n 0, 1) := by decide +kernel
theorem dX5_sell_51 : decode cX5_sell 51 = .ok (.getfield 7, 3) := by decide +kernel
theorem dX5_sell_54 : decode cX5_sell 54 = .ok (.bipush 37, 2) := by decide +kernel
theorem dX5_sell_56 : decode cX5_sell 56 = .ok (.iload_n 2, 1) := by decide +kernel
theorem dX5_sell_57 : decode cX5_sell 57 = .ok (.iadd, 1) := by decide +kernel
theorem dX5_sell_58 : decode cX5_sell 58 = .ok (.iload_n 1, 1) := by decide +kernel
theorem dX5_sell_59 : decode cX5_sell 59 = .ok (.iastore, 1) := by decide +kernel
theorem dX5_sell_60 : decode cX5_sell 60 = .ok (.aload_n 0, 1) := by decide +kernel
theorem dX5_sell_61 : decode cX5_sell 61 = .ok (.getfield 7, 3) := by decide +kernel
theorem dX5_sell_64 : decode cX5_sell 64 = .ok (.bipush 62, 2) := by decide +kernel
theorem dX5_sell_66 : decode cX5_sell 66 = .ok (.dup2, 1) := by decide +kernel
theorem dX5_sell_67 : decode cX5_sell 67 = .ok (.iaload, 1) := by decide +kernel
theorem dX5_sell_68 : decode cX5_sell 68 = .ok (.iload_n 1, 1) := by decide +kernel
theorem dX5_sell_69 : decode cX5_sell 69 = .ok (.invokestatic 100, 3) := by decide +kernel
theorem dX5_sell_72 : decode cX5_sell 72 = .ok (.iadd, 1) := by decide +kernel
theorem dX5_sell_73 : decode cX5_sell 73 = .ok (.iastore, 1) := by decide +kernel
theorem dX5_sell_74 : decode cX5_sell 74 = .ok (.aload_n 0, 1) := by decide +kernel
theorem dX5_sell_75 : decode cX5_sell 75 = .ok (.getfield 7, 3) := by decide +kernel
theorem dX5_sell_78 : decode cX5_sell 78 = .ok (.bipush 24, 2) := by decide +kernel
theorem dX5_sell_80 : decode cX5_sell 80 = .ok (.dup2, 1) := by decide +kernel
theorem dX5_sell_81 : decode cX5_sell 81 = .ok (.iaload, 1) := by decide +kernel
theorem dX5_sell_82 : decode cX5_sell 82 = .ok (.iconst 1, 1) := by decide +kernel
theorem dX5_sell_83 : decode cX5_sell 83 = .ok (.iadd, 1) := by decide +kernel
theorem dX5_sell_84 : decode cX5_sell 84 = .ok (.iastore, 1) := by decide +kernel
theorem dX5_sell_85 : decode cX5_sell 85 = .ok (.iload_n 2, 1) := by decide +kernel
theorem dX5_sell_86 : decode cX5_sell 86 = .ok (.ireturn, 1) := by decide +kernel
theorem dX5_punch_0 : decode cX5_punch 0 = .ok (.aload_n 0, 1) := by decide +kernel
theorem dX5_punch_1 : decode cX5_punch 1 = .ok (.iload_n 1, 1) := by decide +kernel
theorem dX5_punch_2 : decode cX5_punch 2 = .ok (.invokevirtual 103, 3) := by decide +kernel
theorem dX5_punch_5 : decode cX5_punch 5 = .ok (.ifCond .eq 10, 3) := by decide +kernel
theorem dX5_punch_8 : decode cX5_punch 8 = .ok (.iload_n 2, 1) := by decide +kernel
theorem dX5_punch_9 : decode cX5_punch 9 = .ok (.invokestatic 45, 3) := by decide +kernel
theorem dX5_punch_12 : decode cX5_punch 12 = .ok (.ifCond .ne 5, 3) := by decide +kernel
theorem dX5_punch_15 : decode cX5_punch 15 = .ok (.iconst (-1), 1) := by decide +kernel
theorem dX5_punch_16 : decode cX5_punch 16 = .ok (.ireturn, 1) := by decide +kernel
theorem dX5_punch_17 : decode cX5_punch 17 = .ok (.aload_n 0, 1) := by decide +kernel
theorem dX5_punch_18 : decode cX5_punch 18 = .ok (.getfield 7, 3) := by decide +kernel
theorem dX5_punch_21 : decode cX5_punch 21 = .ok (.bipush 25, 2) := by decide +kernel
theorem dX5_punch_23 : decode cX5_punch 23 = .ok (.iload_n 1, 1) := by decide +kernel
theorem dX5_punch_24 : decode cX5_punch 24 = .ok (.iadd, 1) := by decide +kernel
theorem dX5_punch_25 : decode cX5_punch 25 = .ok (.iaload, 1) := by decide +kernel
theorem dX5_punch_26 : decode cX5_punch 26 = .ok (.aload_n 0, 1) := by decide +kernel
theorem dX5_punch_27 : decode cX5_punch 27 = .ok (.getfield 7, 3) := by decide +kernel
theorem dX5_punch_30 : decode cX5_punch 30 = .ok (.bipush 37, 2) := by decide +kernel
theorem dX5_punch_32 : decode cX5_punch 32 = .ok (.iload_n 1, 1) := by decide +kernel
theorem dX5_punch_33 : decode cX5_punch 33 = .ok (.iadd, 1) := by decide +kernel
theorem dX5_punch_34 : decode cX5_punch 34 = .ok (.iaload, 1) := by decide +kernel
theorem dX5_punch_35 : decode cX5_punch 35 = .ok (.iand, 1) := by decide +kernel
theorem dX5_punch_36 : decode cX5_punch 36 = .ok (.iconst 1, 1) := by decide +kernel
theorem dX5_punch_37 : decode cX5_punch 37 = .ok (.iload_n 2, 1) := by decide +kernel
theorem dX5_punch_38 : decode cX5_punch 38 = .ok (.ishl, 1) := by decide +kernel
theorem dX5_punch_39 : decode cX5_punch 39 = .ok (.iand, 1) := by decide +kernel
theorem dX5_punch_40 : decode cX5_punch 40 = .ok (.ifCond .eq 6, 3) := by decide +kernel
theorem dX5_punch_43 : decode cX5_punch 43 = .ok (.bipush (-5), 2) := by decide +kernel
theorem dX5_punch_45 : decode cX5_punch 45 = .ok (.ireturn, 1) := by decide +kernel
theorem dX5_punch_46 : decode cX5_punch 46 = .ok (.aload_n 0, 1) := by decide +kernel
theorem dX5_punch_47 : decode cX5_punch 47 = .ok (.invokevirtual 49, 3) := by decide +kernel
theorem dX5_punch_50 : decode cX5_punch 50 = .ok (.aload_n 0, 1) := by decide +kernel
theorem dX5_punch_51 : decode cX5_punch 51 = .ok (.getfield 7, 3) := by decide +kernel
theorem dX5_punch_54 : decode cX5_punch 54 = .ok (.bipush 25, 2) := by decide +kernel
theorem dX5_punch_56 : decode cX5_punch 56 = .ok (.iload_n 1, 1) := by decide +kernel
theorem dX5_punch_57 : decode cX5_punch 57 = .ok (.iadd, 1) := by decide +kernel
theorem dX5_punch_58 : decode cX5_punch 58 = .ok (.dup2, 1) := by decide +kernel
theorem dX5_punch_59 : decode cX5_punch 59 = .ok (.iaload, 1) := by decide +kernel
theorem dX5_punch_60 : decode cX5_punch 60 = .ok (.iconst 1, 1) := by decide +kernel
theorem dX5_punch_61 : decode cX5_punch 61 = .ok (.iload_n 2, 1) := by decide +kernel
theorem dX5_punch_62 : decode cX5_punch 62 = .ok (.ishl, 1) := by decide +kernel
theorem dX5_punch_63 : decode cX5_punch 63 = .ok (.ior, 1) := by decide +kernel
theorem dX5_punch_64 : decode cX5_punch 64 = .ok (.iastore, 1) := by decide +kernel
theorem dX5_punch_65 : decode cX5_punch 65 = .ok (.aload_n 0, 1) := by decide +kernel
theorem dX5_punch_66 : decode cX5_punch 66 = .ok (.getfield 7, 3) := by decide +kernel
theorem dX5_punch_69 : decode cX5_punch 69 = .ok (.bipush 37, 2) := by decide +kernel
theorem dX5_punch_71 : decode cX5_punch 71 = .ok (.iload_n 1, 1) := by decide +kernel
theorem dX5_punch_72 : decode cX5_punch 72 = .ok (.iadd, 1) := by decide +kernel
theorem dX5_punch_73 : decode cX5_punch 73 = .ok (.dup2, 1) := by decide +kernel
theorem dX5_punch_74 : decode cX5_punch 74 = .ok (.iaload, 1) := by decide +kernel
theorem dX5_punch_75 : decode cX5_punch 75 = .ok (.iconst 1, 1) := by decide +kernel
theorem dX5_punch_76 : decode cX5_punch 76 = .ok (.iload_n 2, 1) := by decide +kernel
theorem dX5_punch_77 : decode cX5_punch 77 = .ok (.ishl, 1) := by decide +kernel
theorem dX5_punch_78 : decode cX5_punch 78 = .ok (.ior, 1) := by decide +kernel
theorem dX5_punch_79 : decode cX5_punch 79 = .ok (.iastore, 1) := by decide +kernel
theorem dX5_punch_80 : decode cX5_punch 80 = .ok (.aload_n 0, 1) := by decide +kernel
theorem dX5_punch_81 : decode cX5_punch 81 = .ok (.getfield 7, 3) := by decide +kernel
theorem dX5_punch_84 : decode cX5_punch 84 = .ok (.bipush 62, 2) := by decide +kernel
theorem dX5_punch_86 : decode cX5_punch 86 = .ok (.dup2, 1) := by decide +kernel
theorem dX5_punch_87 : decode cX5_punch 87 = .ok (.iaload, 1) := by decide +kernel
theorem dX5_punch_88 : decode cX5_punch 88 = .ok (.iconst 1, 1) := by decide +kernel
theorem dX5_punch_89 : decode cX5_punch 89 = .ok (.iadd, 1) := by decide +kernel
theorem dX5_punch_90 : decode cX5_punch 90 = .ok (.iastore, 1) := by decide +kernel
theorem dX5_punch_91 : decode cX5_punch 91 = .ok (.aload_n 0, 1) := by decide +kernel
theorem dX5_punch_92 : decode cX5_punch 92 = .ok (.getfield 7, 3) := by decide +kernel
theorem dX5_punch_95 : decode cX5_punch 95 = .ok (.bipush 25, 2) := by decide +kernel
theorem dX5_punch_97 : decode cX5_punch 97 = .ok (.iload_n 1, 1) := by decide +kernel
theorem dX5_punch_98 : decode cX5_punch 98 = .ok (.iadd, 1) := by decide +kernel
theorem dX5_punch_99 : decode cX5_punch 99 = .ok (.iaload, 1) := by decide +kernel
theorem dX5_punch_100 : decode cX5_punch 100 = .ok (.invokestatic 100, 3) := by decide +kernel
theorem dX5_punch_103 : decode cX5_punch 103 = .ok (.ireturn, 1) := by decide +kernel
theorem dX5_isFalse_0 : decode cX5_isFalse 0 = .ok (.aload_n 0, 1) := by decide +kernel
theorem dX5_isFalse_1 : decode cX5_isFalse 1 = .ok (.getfield 7, 3) := by decide +kernel
theorem dX5_isFalse_4 : decode cX5_isFalse 4 = .ok (.bipush 25, 2) := by decide +kernel
theorem dX5_isFalse_6 : decode cX5_isFalse 6 = .ok (.iload_n 1, 1) := by decide +kernel
theorem dX5_isFalse_7 : decode cX5_isFalse 7 = .ok (.iadd, 1) := by decide +kernel
theorem dX5_isFalse_8 : decode cX5_isFalse 8 = .ok (.iaload, 1) := by decide +kernel
theorem dX5_isFalse_9 : decode cX5_isFalse 9 = .ok (.aload_n 0, 1) := by decide +kernel
theorem dX5_isFalse_10 : decode cX5_isFalse 10 = .ok (.getfield 7, 3) := by decide +kernel
theorem dX5_isFalse_13 : decode cX5_isFalse 13 = .ok (.bipush 37, 2) := by decide +kernel
theorem dX5_isFalse_15 : decode cX5_isFalse 15 = .ok (.iload_n 1, 1) := by decide +kernel
theorem dX5_isFalse_16 : decode cX5_isFalse 16 = .ok (.iadd, 1) := by decide +kernel
theorem dX5_isFalse_17 : decode cX5_isFalse 17 = .ok (.iaload, 1) := by decide +kernel
theorem dX5_isFalse_18 : decode cX5_isFalse 18 = .ok (.if_icmp .eq 7, 3) := by decide +kernel
theorem dX5_isFalse_21 : decode cX5_isFalse 21 = .ok (.iconst 1, 1) := by decide +kernel
theorem dX5_isFalse_22 : decode cX5_isFalse 22 = .ok (.goto 4, 3) := by decide +kernel
theorem dX5_isFalse_25 : decode cX5_isFalse 25 = .ok (.iconst 0, 1) := by decide +kernel
theorem dX5_isFalse_26 : decode cX5_isFalse 26 = .ok (.ireturn, 1) := by decide +kernel
theorem dX5_forge_0 : decode cX5_forge 0 = .ok (.aload_n 0, 1) := by decide +kernel
theorem dX5_forge_1 : decode cX5_forge 1 = .ok (.iload_n 1, 1) := by decide +kernel
theorem dX5_forge_2 : decode cX5_forge 2 = .ok (.invokevirtual 103, 3) := by decide +kernel
theorem dX5_forge_5 : decode cX5_forge 5 = .ok (.ifCond .eq 10, 3) := by decide +kernel
theorem dX5_forge_8 : decode cX5_forge 8 = .ok (.iload_n 2, 1) := by decide +kernel
theorem dX5_forge_9 : decode cX5_forge 9 = .ok (.invokestatic 45, 3) := by decide +kernel
theorem dX5_forge_12 : decode cX5_forge 12 = .ok (.ifCond .ne 5, 3) := by decide +kernel
theorem dX5_forge_15 : decode cX5_forge 15 = .ok (.iconst (-1), 1) := by decide +kernel
theorem dX5_forge_16 : decode cX5_forge 16 = .ok (.ireturn, 1) := by decide +kernel
theorem dX5_forge_17 : decode cX5_forge 17 = .ok (.aload_n 0, 1) := by decide +kernel
theorem dX5_forge_18 : decode cX5_forge 18 = .ok (.getfield 7, 3) := by decide +kernel
theorem dX5_forge_21 : decode cX5_forge 21 = .ok (.bipush 25, 2) := by decide +kernel
theorem dX5_forge_23 : decode cX5_forge 23 = .ok (.iload_n 1, 1) := by decide +kernel
theorem dX5_forge_24 : decode cX5_forge 24 = .ok (.iadd, 1) := by decide +kernel
theorem dX5_forge_25 : decode cX5_forge 25 = .ok (.iaload, 1) := by decide +kernel
theorem dX5_forge_26 : decode cX5_forge 26 = .ok (.iload_n 2, 1) := by decide +kernel
theorem dX5_forge_27 : decode cX5_forge 27 = .ok (.ishr, 1) := by decide +kernel
theorem dX5_forge_28 : decode cX5_forge 28 = .ok (.iconst 1, 1) := by decide +kernel
theorem dX5_forge_29 : decode cX5_forge 29 = .ok (.iand, 1) := by decide +kernel
theorem dX5_forge_30 : decode cX5_forge 30 = .ok (.iconst 1, 1) := by decide +kernel
theorem dX5_forge_31 : decode cX5_forge 31 = .ok (.if_icmp .ne 7, 3) := by decide +kernel
theorem dX5_forge_34 : decode cX5_forge 34 = .ok (.iconst 1, 1) := by decide +kernel
theorem dX5_forge_35 : decode cX5_forge 35 = .ok (.goto 4, 3) := by decide +kernel
theorem dX5_forge_38 : decode cX5_forge 38 = .ok (.iconst 0, 1) := by decide +kernel
theorem dX5_forge_39 : decode cX5_forge 39 = .ok (.iload_n 3, 1) := by decide +kernel
theorem dX5_forge_40 : decode cX5_forge 40 = .ok (.if_icmp .ne 6, 3) := by decide +kernel
theorem dX5_forge_43 : decode cX5_forge 43 = .ok (.bipush (-5), 2) := by decide +kernel
theorem dX5_forge_45 : decode cX5_forge 45 = .ok (.ireturn, 1) := by decide +kernel
theorem dX5_forge_46 : decode cX5_forge 46 = .ok (.aload_n 0, 1) := by decide +kernel
theorem dX5_forge_47 : decode cX5_forge 47 = .ok (.invokevirtual 49, 3) := by decide +kernel
theorem dX5_forge_50 : decode cX5_forge 50 = .ok (.aload_n 0, 1) := by decide +kernel
theorem dX5_forge_51 : decode cX5_forge 51 = .ok (.getfield 7, 3) := by decide +kernel
theorem dX5_forge_54 : decode cX5_forge 54 = .ok (.bipush 25, 2) := by decide +kernel
theorem dX5_forge_56 : decode cX5_forge 56 = .ok (.iload_n 1, 1) := by decide +kernel
theorem dX5_forge_57 : decode cX5_forge 57 = .ok (.iadd, 1) := by decide +kernel
theorem dX5_forge_58 : decode cX5_forge 58 = .ok (.dup2, 1) := by decide +kernel
theorem dX5_forge_59 : decode cX5_forge 59 = .ok (.iaload, 1) := by decide +kernel
theorem dX5_forge_60 : decode cX5_forge 60 = .ok (.iconst 1, 1) := by decide +kernel
theorem dX5_forge_61 : decode cX5_forge 61 = .ok (.iload_n 2, 1) := by decide +kernel
theorem dX5_forge_62 : decode cX5_forge 62 = .ok (.ishl, 1) := by decide +kernel
theorem dX5_forge_63 : decode cX5_forge 63 = .ok (.ixor, 1) := by decide +kernel
theorem dX5_forge_64 : decode cX5_forge 64 = .ok (.iastore, 1) := by decide +kernel
theorem dX5_forge_65 : decode cX5_forge 65 = .ok (.aload_n 0, 1) := by decide +kernel
theorem dX5_forge_66 : decode cX5_forge 66 = .ok (.getfield 7, 3) := by decide +kernel
theorem dX5_forge_69 : decode cX5_forge 69 = .ok (.bipush 63, 2) := by decide +kernel
theorem dX5_forge_71 : decode cX5_forge 71 = .ok (.dup2, 1) := by decide +kernel
theorem dX5_forge_72 : decode cX5_forge 72 = .ok (.iaload, 1) := by decide +kernel
theorem dX5_forge_73 : decode cX5_forge 73 = .ok (.iconst 1, 1) := by decide +kernel
theorem dX5_forge_74 : decode cX5_forge 74 = .ok (.iadd, 1) := by decide +kernel
theorem dX5_forge_75 : decode cX5_forge 75 = .ok (.iastore, 1) := by decide +kernel
theorem dX5_forge_76 : decode cX5_forge 76 = .ok (.aload_n 0, 1) := by decide +kernel
theorem dX5_forge_77 : decode cX5_forge 77 = .ok (.iload_n 1, 1) := by decide +kernel
theorem dX5_forge_78 : decode cX5_forge 78 = .ok (.invokevirtual 106, 3) := by decide +kernel
theorem dX5_forge_81 : decode cX5_forge 81 = .ok (.ifCond .eq 7, 3) := by decide +kernel
theorem dX5_forge_84 : decode cX5_forge 84 = .ok (.iconst 1, 1) := by decide +kernel
theorem dX5_forge_85 : decode cX5_forge 85 = .ok (.goto 4, 3) := by decide +kernel
theorem dX5_forge_88 : decode cX5_forge 88 = .ok (.iconst 0, 1) := by decide +kernel
theorem dX5_forge_89 : decode cX5_forge 89 = .ok (.ireturn, 1) := by decide +kernel
theorem dX5_mend_0 : decode cX5_mend 0 = .ok (.aload_n 0, 1) := by decide +kernel
theorem dX5_mend_1 : decode cX5_mend 1 = .ok (.iload_n 1, 1) := by decide +kernel
theorem dX5_mend_2 : decode cX5_mend 2 = .ok (.invokevirtual 103, 3) := by decide +kernel
theorem dX5_mend_5 : decode cX5_mend 5 = .ok (.ifCond .ne 5, 3) := by decide +kernel
theorem dX5_mend_8 : decode cX5_mend 8 = .ok (.iconst (-1), 1) := by decide +kernel
theorem dX5_mend_9 : decode cX5_mend 9 = .ok (.ireturn, 1) := by decide +kernel
theorem dX5_mend_10 : decode cX5_mend 10 = .ok (.aload_n 0, 1) := by decide +kernel
theorem dX5_mend_11 : decode cX5_mend 11 = .ok (.iload_n 1, 1) := by decide +kernel
theorem dX5_mend_12 : decode cX5_mend 12 = .ok (.invokevirtual 106, 3) := by decide +kernel
end
section
theorem dX5_mend_15 : decode cX5_mend 15 = .ok (.ifCond .ne 6, 3) := by decide +kernel
theorem dX5_mend_18 : decode cX5_mend 18 = .ok (.bipush (-5), 2) := by decide +kernel
theorem dX5_mend_20 : decode cX5_mend 20 = .ok (.ireturn, 1) := by decide +kernel
theorem dX5_mend_21 : decode cX5_mend 21 = .ok (.aload_n 0, 1) := by decide +kernel
theorem dX5_mend_22 : decode cX5_mend 22 = .ok (.invokevirtual 49, 3) := by decide +kernel
theorem dX5_mend_25 : decode cX5_mend 25 = .ok (.aload_n 0, 1) := by decide +kernel
theorem dX5_mend_26 : decode cX5_mend 26 = .ok (.getfield 7, 3) := by decide +kernel
theorem dX5_mend_29 : decode cX5_mend 29 = .ok (.bipush 25, 2) := by decide +kernel
theorem dX5_mend_31 : decode cX5_mend 31 = .ok (.iload_n 1, 1) := by decide +kernel
theorem dX5_mend_32 : decode cX5_mend 32 = .ok (.iadd, 1) := by decide +kernel
theorem dX5_mend_33 : decode cX5_mend 33 = .ok (.iaload, 1) := by decide +kernel
theorem dX5_mend_34 : decode cX5_mend 34 = .ok (.aload_n 0, 1) := by decide +kernel
theorem dX5_mend_35 : decode cX5_mend 35 = .ok (.getfield 7, 3) := by decide +kernel
theorem dX5_mend_38 : decode cX5_mend 38 = .ok (.bipush 37, 2) := by decide +kernel
theorem dX5_mend_40 : decode cX5_mend 40 = .ok (.iload_n 1, 1) := by decide +kernel
theorem dX5_mend_41 : decode cX5_mend 41 = .ok (.iadd, 1) := by decide +kernel
theorem dX5_mend_42 : decode cX5_mend 42 = .ok (.iaload, 1) := by decide +kernel
theorem dX5_mend_43 : decode cX5_mend 43 = .ok (.ixor, 1) := by decide +kernel
theorem dX5_mend_44 : decode cX5_mend 44 = .ok (.invokestatic 100, 3) := by decide +kernel
theorem dX5_mend_47 : decode cX5_mend 47 = .ok (.istore_n 2, 1) := by decide +kernel
theorem dX5_mend_48 : decode cX5_mend 48 = .ok (.aload_n 0, 1) := by decide +kernel
theorem dX5_mend_49 : decode cX5_mend 49 = .ok (.getfield 7, 3) := by decide +kernel
theorem dX5_mend_52 : decode cX5_mend 52 = .ok (.bipush 25, 2) := by decide +kernel
theorem dX5_mend_54 : decode cX5_mend 54 = .ok (.iload_n 1, 1) := by decide +kernel
theorem dX5_mend_55 : decode cX5_mend 55 = .ok (.iadd, 1) := by decide +kernel
theorem dX5_mend_56 : decode cX5_mend 56 = .ok (.aload_n 0, 1) := by decide +kernel
theorem dX5_mend_57 : decode cX5_mend 57 = .ok (.getfield 7, 3) := by decide +kernel
theorem dX5_mend_60 : decode cX5_mend 60 = .ok (.bipush 37, 2) := by decide +kernel
theorem dX5_mend_62 : decode cX5_mend 62 = .ok (.iload_n 1, 1) := by decide +kernel
theorem dX5_mend_63 : decode cX5_mend 63 = .ok (.iadd, 1) := by decide +kernel
theorem dX5_mend_64 : decode cX5_mend 64 = .ok (.iaload, 1) := by decide +kernel
theorem dX5_mend_65 : decode cX5_mend 65 = .ok (.iastore, 1) := by decide +kernel
theorem dX5_mend_66 : decode cX5_mend 66 = .ok (.iload_n 2, 1) := by decide +kernel
theorem dX5_mend_67 : decode cX5_mend 67 = .ok (.ireturn, 1) := by decide +kernel
theorem dX5_turns_0 : decode cX5_turns 0 = .ok (.aload_n 0, 1) := by decide +kernel
theorem dX5_turns_1 : decode cX5_turns 1 = .ok (.iload_n 2, 1) := by decide +kernel
theorem dX5_turns_2 : decode cX5_turns 2 = .ok (.invokevirtual 109, 3) := by decide +kernel
theorem dX5_turns_5 : decode cX5_turns 5 = .ok (.istore_n 3, 1) := by decide +kernel
theorem dX5_turns_6 : decode cX5_turns 6 = .ok (.aload_n 0, 1) := by decide +kernel
theorem dX5_turns_7 : decode cX5_turns 7 = .ok (.getfield 7, 3) := by decide +kernel
theorem dX5_turns_10 : decode cX5_turns 10 = .ok (.bipush 25, 2) := by decide +kernel
theorem dX5_turns_12 : decode cX5_turns 12 = .ok (.iload_n 1, 1) := by decide +kernel
theorem dX5_turns_13 : decode cX5_turns 13 = .ok (.iadd, 1) := by decide +kernel
theorem dX5_turns_14 : decode cX5_turns 14 = .ok (.aload_n 0, 1) := by decide +kernel
theorem dX5_turns_15 : decode cX5_turns 15 = .ok (.aload_n 0, 1) := by decide +kernel
theorem dX5_turns_16 : decode cX5_turns 16 = .ok (.getfield 7, 3) := by decide +kernel
theorem dX5_turns_19 : decode cX5_turns 19 = .ok (.bipush 25, 2) := by decide +kernel
theorem dX5_turns_21 : decode cX5_turns 21 = .ok (.iload_n 1, 1) := by decide +kernel
theorem dX5_turns_22 : decode cX5_turns 22 = .ok (.iadd, 1) := by decide +kernel
theorem dX5_turns_23 : decode cX5_turns 23 = .ok (.iaload, 1) := by decide +kernel
theorem dX5_turns_24 : decode cX5_turns 24 = .ok (.iload_n 3, 1) := by decide +kernel
theorem dX5_turns_25 : decode cX5_turns 25 = .ok (.invokevirtual 112, 3) := by decide +kernel
theorem dX5_turns_28 : decode cX5_turns 28 = .ok (.iastore, 1) := by decide +kernel
theorem dX5_turns_29 : decode cX5_turns 29 = .ok (.aload_n 0, 1) := by decide +kernel
theorem dX5_turns_30 : decode cX5_turns 30 = .ok (.getfield 7, 3) := by decide +kernel
theorem dX5_turns_33 : decode cX5_turns 33 = .ok (.bipush 37, 2) := by decide +kernel
theorem dX5_turns_35 : decode cX5_turns 35 = .ok (.iload_n 1, 1) := by decide +kernel
theorem dX5_turns_36 : decode cX5_turns 36 = .ok (.iadd, 1) := by decide +kernel
theorem dX5_turns_37 : decode cX5_turns 37 = .ok (.aload_n 0, 1) := by decide +kernel
theorem dX5_turns_38 : decode cX5_turns 38 = .ok (.aload_n 0, 1) := by decide +kernel
theorem dX5_turns_39 : decode cX5_turns 39 = .ok (.getfield 7, 3) := by decide +kernel
theorem dX5_turns_42 : decode cX5_turns 42 = .ok (.bipush 37, 2) := by decide +kernel
theorem dX5_turns_44 : decode cX5_turns 44 = .ok (.iload_n 1, 1) := by decide +kernel
theorem dX5_turns_45 : decode cX5_turns 45 = .ok (.iadd, 1) := by decide +kernel
theorem dX5_turns_46 : decode cX5_turns 46 = .ok (.iaload, 1) := by decide +kernel
theorem dX5_turns_47 : decode cX5_turns 47 = .ok (.iload_n 3, 1) := by decide +kernel
theorem dX5_turns_48 : decode cX5_turns 48 = .ok (.invokevirtual 112, 3) := by decide +kernel
theorem dX5_turns_51 : decode cX5_turns 51 = .ok (.iastore, 1) := by decide +kernel
theorem dX5_turns_52 : decode cX5_turns 52 = .ok (.aload_n 0, 1) := by decide +kernel
theorem dX5_turns_53 : decode cX5_turns 53 = .ok (.getfield 7, 3) := by decide +kernel
theorem dX5_turns_56 : decode cX5_turns 56 = .ok (.bipush 50, 2) := by decide +kernel
theorem dX5_turns_58 : decode cX5_turns 58 = .ok (.iload_n 1, 1) := by decide +kernel
theorem dX5_turns_59 : decode cX5_turns 59 = .ok (.iadd, 1) := by decide +kernel
theorem dX5_turns_60 : decode cX5_turns 60 = .ok (.dup2, 1) := by decide +kernel
theorem dX5_turns_61 : decode cX5_turns 61 = .ok (.iaload, 1) := by decide +kernel
theorem dX5_turns_62 : decode cX5_turns 62 = .ok (.iload_n 2, 1) := by decide +kernel
theorem dX5_turns_63 : decode cX5_turns 63 = .ok (.iadd, 1) := by decide +kernel
theorem dX5_turns_64 : decode cX5_turns 64 = .ok (.iastore, 1) := by decide +kernel
theorem dX5_turns_65 : decode cX5_turns 65 = .ok (.aload_n 0, 1) := by decide +kernel
theorem dX5_turns_66 : decode cX5_turns 66 = .ok (.getfield 7, 3) := by decide +kernel
theorem dX5_turns_69 : decode cX5_turns 69 = .ok (.bipush 64, 2) := by decide +kernel
theorem dX5_turns_71 : decode cX5_turns 71 = .ok (.dup2, 1) := by decide +kernel
theorem dX5_turns_72 : decode cX5_turns 72 = .ok (.iaload, 1) := by decide +kernel
theorem dX5_turns_73 : decode cX5_turns 73 = .ok (.iconst 1, 1) := by decide +kernel
theorem dX5_turns_74 : decode cX5_turns 74 = .ok (.iadd, 1) := by decide +kernel
theorem dX5_turns_75 : decode cX5_turns 75 = .ok (.iastore, 1) := by decide +kernel
theorem dX5_turns_76 : decode cX5_turns 76 = .ok (.return_, 1) := by decide +kernel
theorem dX5_turn_0 : decode cX5_turn 0 = .ok (.aload_n 0, 1) := by decide +kernel
theorem dX5_turn_1 : decode cX5_turn 1 = .ok (.iload_n 1, 1) := by decide +kernel
theorem dX5_turn_2 : decode cX5_turn 2 = .ok (.invokevirtual 103, 3) := by decide +kernel
theorem dX5_turn_5 : decode cX5_turn 5 = .ok (.ifCond .ne 5, 3) := by decide +kernel
theorem dX5_turn_8 : decode cX5_turn 8 = .ok (.iconst (-1), 1) := by decide +kernel
theorem dX5_turn_9 : decode cX5_turn 9 = .ok (.ireturn, 1) := by decide +kernel
theorem dX5_turn_10 : decode cX5_turn 10 = .ok (.iload_n 2, 1) := by decide +kernel
theorem dX5_turn_11 : decode cX5_turn 11 = .ok (.invokestatic 116, 3) := by decide +kernel
theorem dX5_turn_14 : decode cX5_turn 14 = .ok (.ifCond .ne 6, 3) := by decide +kernel
theorem dX5_turn_17 : decode cX5_turn 17 = .ok (.bipush (-2), 2) := by decide +kernel
theorem dX5_turn_19 : decode cX5_turn 19 = .ok (.ireturn, 1) := by decide +kernel
theorem dX5_turn_20 : decode cX5_turn 20 = .ok (.aload_n 0, 1) := by decide +kernel
theorem dX5_turn_21 : decode cX5_turn 21 = .ok (.iload_n 2, 1) := by decide +kernel
theorem dX5_turn_22 : decode cX5_turn 22 = .ok (.invokevirtual 109, 3) := by decide +kernel
theorem dX5_turn_25 : decode cX5_turn 25 = .ok (.ifCond .ne 6, 3) := by decide +kernel
theorem dX5_turn_28 : decode cX5_turn 28 = .ok (.bipush (-5), 2) := by decide +kernel
theorem dX5_turn_30 : decode cX5_turn 30 = .ok (.ireturn, 1) := by decide +kernel
theorem dX5_turn_31 : decode cX5_turn 31 = .ok (.aload_n 0, 1) := by decide +kernel
theorem dX5_turn_32 : decode cX5_turn 32 = .ok (.invokevirtual 49, 3) := by decide +kernel
theorem dX5_turn_35 : decode cX5_turn 35 = .ok (.aload_n 0, 1) := by decide +kernel
theorem dX5_turn_36 : decode cX5_turn 36 = .ok (.iload_n 1, 1) := by decide +kernel
theorem dX5_turn_37 : decode cX5_turn 37 = .ok (.iload_n 2, 1) := by decide +kernel
theorem dX5_turn_38 : decode cX5_turn 38 = .ok (.invokevirtual 119, 3) := by decide +kernel
theorem dX5_turn_41 : decode cX5_turn 41 = .ok (.aload_n 0, 1) := by decide +kernel
theorem dX5_turn_42 : decode cX5_turn 42 = .ok (.getfield 7, 3) := by decide +kernel
theorem dX5_turn_45 : decode cX5_turn 45 = .ok (.bipush 25, 2) := by decide +kernel
theorem dX5_turn_47 : decode cX5_turn 47 = .ok (.iload_n 1, 1) := by decide +kernel
theorem dX5_turn_48 : decode cX5_turn 48 = .ok (.iadd, 1) := by decide +kernel
theorem dX5_turn_49 : decode cX5_turn 49 = .ok (.iaload, 1) := by decide +kernel
theorem dX5_turn_50 : decode cX5_turn 50 = .ok (.ireturn, 1) := by decide +kernel
theorem dX5_isOn_0 : decode cX5_isOn 0 = .ok (.aload_n 0, 1) := by decide +kernel
theorem dX5_isOn_1 : decode cX5_isOn 1 = .ok (.getfield 7, 3) := by decide +kernel
theorem dX5_isOn_4 : decode cX5_isOn 4 = .ok (.bipush 49, 2) := by decide +kernel
theorem dX5_isOn_6 : decode cX5_isOn 6 = .ok (.iaload, 1) := by decide +kernel
theorem dX5_isOn_7 : decode cX5_isOn 7 = .ok (.iload_n 1, 1) := by decide +kernel
theorem dX5_isOn_8 : decode cX5_isOn 8 = .ok (.ishr, 1) := by decide +kernel
theorem dX5_isOn_9 : decode cX5_isOn 9 = .ok (.iconst 1, 1) := by decide +kernel
theorem dX5_isOn_10 : decode cX5_isOn 10 = .ok (.iand, 1) := by decide +kernel
theorem dX5_isOn_11 : decode cX5_isOn 11 = .ok (.iconst 1, 1) := by decide +kernel
theorem dX5_isOn_12 : decode cX5_isOn 12 = .ok (.if_icmp .ne 7, 3) := by decide +kernel
theorem dX5_isOn_15 : decode cX5_isOn 15 = .ok (.iconst 1, 1) := by decide +kernel
theorem dX5_isOn_16 : decode cX5_isOn 16 = .ok (.goto 4, 3) := by decide +kernel
theorem dX5_isOn_19 : decode cX5_isOn 19 = .ok (.iconst 0, 1) := by decide +kernel
theorem dX5_isOn_20 : decode cX5_isOn 20 = .ok (.ireturn, 1) := by decide +kernel
theorem dX5_stack_0 : decode cX5_stack 0 = .ok (.aload_n 0, 1) := by decide +kernel
theorem dX5_stack_1 : decode cX5_stack 1 = .ok (.iload_n 1, 1) := by decide +kernel
theorem dX5_stack_2 : decode cX5_stack 2 = .ok (.invokevirtual 103, 3) := by decide +kernel
theorem dX5_stack_5 : decode cX5_stack 5 = .ok (.ifCond .ne 5, 3) := by decide +kernel
theorem dX5_stack_8 : decode cX5_stack 8 = .ok (.iconst (-1), 1) := by decide +kernel
theorem dX5_stack_9 : decode cX5_stack 9 = .ok (.ireturn, 1) := by decide +kernel
theorem dX5_stack_10 : decode cX5_stack 10 = .ok (.aload_n 0, 1) := by decide +kernel
theorem dX5_stack_11 : decode cX5_stack 11 = .ok (.iload_n 1, 1) := by decide +kernel
theorem dX5_stack_12 : decode cX5_stack 12 = .ok (.invokevirtual 123, 3) := by decide +kernel
theorem dX5_stack_15 : decode cX5_stack 15 = .ok (.iload_n 2, 1) := by decide +kernel
theorem dX5_stack_16 : decode cX5_stack 16 = .ok (.if_icmp .ne 6, 3) := by decide +kernel
theorem dX5_stack_19 : decode cX5_stack 19 = .ok (.bipush (-5), 2) := by decide +kernel
theorem dX5_stack_21 : decode cX5_stack 21 = .ok (.ireturn, 1) := by decide +kernel
theorem dX5_stack_22 : decode cX5_stack 22 = .ok (.aload_n 0, 1) := by decide +kernel
theorem dX5_stack_23 : decode cX5_stack 23 = .ok (.invokevirtual 49, 3) := by decide +kernel
theorem dX5_stack_26 : decode cX5_stack 26 = .ok (.aload_n 0, 1) := by decide +kernel
theorem dX5_stack_27 : decode cX5_stack 27 = .ok (.getfield 7, 3) := by decide +kernel
theorem dX5_stack_30 : decode cX5_stack 30 = .ok (.bipush 49, 2) := by decide +kernel
theorem dX5_stack_32 : decode cX5_stack 32 = .ok (.dup2, 1) := by decide +kernel
theorem dX5_stack_33 : decode cX5_stack 33 = .ok (.iaload, 1) := by decide +kernel
theorem dX5_stack_34 : decode cX5_stack 34 = .ok (.iconst 1, 1) := by decide +kernel
theorem dX5_stack_35 : decode cX5_stack 35 = .ok (.iload_n 1, 1) := by decide +kernel
theorem dX5_stack_36 : decode cX5_stack 36 = .ok (.ishl, 1) := by decide +kernel
theorem dX5_stack_37 : decode cX5_stack 37 = .ok (.ixor, 1) := by decide +kernel
theorem dX5_stack_38 : decode cX5_stack 38 = .ok (.iastore, 1) := by decide +kernel
theorem dX5_stack_39 : decode cX5_stack 39 = .ok (.aload_n 0, 1) := by decide +kernel
theorem dX5_stack_40 : decode cX5_stack 40 = .ok (.getfield 7, 3) := by decide +kernel
theorem dX5_stack_43 : decode cX5_stack 43 = .ok (.bipush 49, 2) := by decide +kernel
theorem dX5_stack_45 : decode cX5_stack 45 = .ok (.iaload, 1) := by decide +kernel
theorem dX5_stack_46 : decode cX5_stack 46 = .ok (.invokestatic 100, 3) := by decide +kernel
theorem dX5_stack_49 : decode cX5_stack 49 = .ok (.ireturn, 1) := by decide +kernel
theorem dX5_turnStack_0 : decode cX5_turnStack 0 = .ok (.iload_n 1, 1) := by decide +kernel
theorem dX5_turnStack_1 : decode cX5_turnStack 1 = .ok (.invokestatic 116, 3) := by decide +kernel
theorem dX5_turnStack_4 : decode cX5_turnStack 4 = .ok (.ifCond .ne 6, 3) := by decide +kernel
theorem dX5_turnStack_7 : decode cX5_turnStack 7 = .ok (.bipush (-2), 2) := by decide +kernel
theorem dX5_turnStack_9 : decode cX5_turnStack 9 = .ok (.ireturn, 1) := by decide +kernel
theorem dX5_turnStack_10 : decode cX5_turnStack 10 = .ok (.aload_n 0, 1) := by decide +kernel
theorem dX5_turnStack_11 : decode cX5_turnStack 11 = .ok (.getfield 7, 3) := by decide +kernel
theorem dX5_turnStack_14 : decode cX5_turnStack 14 = .ok (.bipush 49, 2) := by decide +kernel
theorem dX5_turnStack_16 : decode cX5_turnStack 16 = .ok (.iaload, 1) := by decide +kernel
theorem dX5_turnStack_17 : decode cX5_turnStack 17 = .ok (.ifCond .eq 11, 3) := by decide +kernel
theorem dX5_turnStack_20 : decode cX5_turnStack 20 = .ok (.aload_n 0, 1) := by decide +kernel
theorem dX5_turnStack_21 : decode cX5_turnStack 21 = .ok (.iload_n 1, 1) := by decide +kernel
theorem dX5_turnStack_22 : decode cX5_turnStack 22 = .ok (.invokevirtual 109, 3) := by decide +kernel
theorem dX5_turnStack_25 : decode cX5_turnStack 25 = .ok (.ifCond .ne 6, 3) := by decide +kernel
theorem dX5_turnStack_28 : decode cX5_turnStack 28 = .ok (.bipush (-5), 2) := by decide +kernel
theorem dX5_turnStack_30 : decode cX5_turnStack 30 = .ok (.ireturn, 1) := by decide +kernel
theorem dX5_turnStack_31 : decode cX5_turnStack 31 = .ok (.aload_n 0, 1) := by decide +kernel
theorem dX5_turnStack_32 : decode cX5_turnStack 32 = .ok (.invokevirtual 49, 3) := by decide +kernel
theorem dX5_turnStack_35 : decode cX5_turnStack 35 = .ok (.iconst 0, 1) := by decide +kernel
theorem dX5_turnStack_36 : decode cX5_turnStack 36 = .ok (.istore_n 2, 1) := by decide +kernel
theorem dX5_turnStack_37 : decode cX5_turnStack 37 = .ok (.iload_n 2, 1) := by decide +kernel
theorem dX5_turnStack_38 : decode cX5_turnStack 38 = .ok (.aload_n 0, 1) := by decide +kernel
theorem dX5_turnStack_39 : decode cX5_turnStack 39 = .ok (.getfield 7, 3) := by decide +kernel
theorem dX5_turnStack_42 : decode cX5_turnStack 42 = .ok (.bipush 24, 2) := by decide +kernel
theorem dX5_turnStack_44 : decode cX5_turnStack 44 = .ok (.iaload, 1) := by decide +kernel
theorem dX5_turnStack_45 : decode cX5_turnStack 45 = .ok (.if_icmp .ge 23, 3) := by decide +kernel
theorem dX5_turnStack_48 : decode cX5_turnStack 48 = .ok (.aload_n 0, 1) := by decide +kernel
theorem dX5_turnStack_49 : decode cX5_turnStack 49 = .ok (.iload_n 2, 1) := by decide +kernel
theorem dX5_turnStack_50 : decode cX5_turnStack 50 = .ok (.invokevirtual 123, 3) := by decide +kernel
theorem dX5_turnStack_53 : decode cX5_turnStack 53 = .ok (.ifCond .eq 9, 3) := by decide +kernel
theorem dX5_turnStack_56 : decode cX5_turnStack 56 = .ok (.aload_n 0, 1) := by decide +kernel
theorem dX5_turnStack_57 : decode cX5_turnStack 57 = .ok (.iload_n 2, 1) := by decide +kernel
theorem dX5_turnStack_58 : decode cX5_turnStack 58 = .ok (.iload_n 1, 1) := by decide +kernel
theorem dX5_turnStack_59 : decode cX5_turnStack 59 = .ok (.invokevirtual 119, 3) := by decide +kernel
theorem dX5_turnStack_62 : decode cX5_turnStack 62 = .ok (.iinc 2 1, 3) := by decide +kernel
theorem dX5_turnStack_65 : decode cX5_turnStack 65 = .ok (.goto (-28), 3) := by decide +kernel
theorem dX5_turnStack_68 : decode cX5_turnStack 68 = .ok (.aload_n 0, 1) := by decide +kernel
theorem dX5_turnStack_69 : decode cX5_turnStack 69 = .ok (.getfield 7, 3) := by decide +kernel
theorem dX5_turnStack_72 : decode cX5_turnStack 72 = .ok (.bipush 49, 2) := by decide +kernel
theorem dX5_turnStack_74 : decode cX5_turnStack 74 = .ok (.iaload, 1) := by decide +kernel
theorem dX5_turnStack_75 : decode cX5_turnStack 75 = .ok (.invokestatic 100, 3) := by decide +kernel
theorem dX5_turnStack_78 : decode cX5_turnStack 78 = .ok (.ireturn, 1) := by decide +kernel
theorem dX5_undo_0 : decode cX5_undo 0 = .ok (.aload_n 0, 1) := by decide +kernel
theorem dX5_undo_1 : decode cX5_undo 1 = .ok (.getfield 30, 3) := by decide +kernel
theorem dX5_undo_4 : decode cX5_undo 4 = .ok (.ifCond .ne 6, 3) := by decide +kernel
theorem dX5_undo_7 : decode cX5_undo 7 = .ok (.bipush (-5), 2) := by decide +kernel
theorem dX5_undo_9 : decode cX5_undo 9 = .ok (.ireturn, 1) := by decide +kernel
theorem dX5_undo_10 : decode cX5_undo 10 = .ok (.aload_n 0, 1) := by decide +kernel
theorem dX5_undo_11 : decode cX5_undo 11 = .ok (.dup, 1) := by decide +kernel
theorem dX5_undo_12 : decode cX5_undo 12 = .ok (.getfield 30, 3) := by decide +kernel
theorem dX5_undo_15 : decode cX5_undo 15 = .ok (.iconst 1, 1) := by decide +kernel
theorem dX5_undo_16 : decode cX5_undo 16 = .ok (.isub, 1) := by decide +kernel
theorem dX5_undo_17 : decode cX5_undo 17 = .ok (.putfield 30, 3) := by decide +kernel
theorem dX5_undo_20 : decode cX5_undo 20 = .ok (.iconst 0, 1) := by decide +kernel
theorem dX5_undo_21 : decode cX5_undo 21 = .ok (.istore_n 1, 1) := by decide +kernel
theorem dX5_undo_22 : decode cX5_undo 22 = .ok (.iload_n 1, 1) := by decide +kernel
theorem dX5_undo_23 : decode cX5_undo 23 = .ok (.bipush 65, 2) := by decide +kernel
theorem dX5_undo_25 : decode cX5_undo 25 = .ok (.if_icmp .ge 29, 3) := by decide +kernel
theorem dX5_undo_28 : decode cX5_undo 28 = .ok (.aload_n 0, 1) := by decide +kernel
theorem dX5_undo_29 : decode cX5_undo 29 = .ok (.getfield 7, 3) := by decide +kernel
theorem dX5_undo_32 : decode cX5_undo 32 = .ok (.iload_n 1, 1) := by decide +kernel
theorem dX5_undo_33 : decode cX5_undo 33 = .ok (.aload_n 0, 1) := by decide +kernel
theorem dX5_undo_34 : decode cX5_undo 34 = .ok (.getfield 13, 3) := by decide +kernel
theorem dX5_undo_37 : decode cX5_undo 37 = .ok (.bipush 65, 2) := by decide +kernel
theorem dX5_undo_39 : decode cX5_undo 39 = .ok (.aload_n 0, 1) := by decide +kernel
theorem dX5_undo_40 : decode cX5_undo 40 = .ok (.getfield 30, 3) := by decide +kernel
theorem dX5_undo_43 : decode cX5_undo 43 = .ok (.imul, 1) := by decide +kernel
theorem dX5_undo_44 : decode cX5_undo 44 = .ok (.iload_n 1, 1) := by decide +kernel
theorem dX5_undo_45 : decode cX5_undo 45 = .ok (.iadd, 1) := by decide +kernel
theorem dX5_undo_46 : decode cX5_undo 46 = .ok (.iaload, 1) := by decide +kernel
theorem dX5_undo_47 : decode cX5_undo 47 = .ok (.iastore, 1) := by decide +kernel
theorem dX5_undo_48 : decode cX5_undo 48 = .ok (.iinc 1 1, 3) := by decide +kernel
theorem dX5_undo_51 : decode cX5_undo 51 = .ok (.goto (-29), 3) := by decide +kernel
theorem dX5_undo_54 : decode cX5_undo 54 = .ok (.aload_n 0, 1) := by decide +kernel
theorem dX5_undo_55 : decode cX5_undo 55 = .ok (.getfield 30, 3) := by decide +kernel
theorem dX5_undo_58 : decode cX5_undo 58 = .ok (.ireturn, 1) := by decide +kernel
theorem dX5_keep_0 : decode cX5_keep 0 = .ok (.iconst 0, 1) := by decide +kernel
theorem dX5_keep_1 : decode cX5_keep 1 = .ok (.istore_n 1, 1) := by decide +kernel
theorem dX5_keep_2 : decode cX5_keep 2 = .ok (.iload_n 1, 1) := by decide +kernel
theorem dX5_keep_3 : decode cX5_keep 3 = .ok (.bipush 65, 2) := by decide +kernel
theorem dX5_keep_5 : decode cX5_keep 5 = .ok (.if_icmp .ge 21, 3) := by decide +kernel
theorem dX5_keep_8 : decode cX5_keep 8 = .ok (.aload_n 0, 1) := by decide +kernel
theorem dX5_keep_9 : decode cX5_keep 9 = .ok (.getfield 16, 3) := by decide +kernel
theorem dX5_keep_12 : decode cX5_keep 12 = .ok (.iload_n 1, 1) := by decide +kernel
theorem dX5_keep_13 : decode cX5_keep 13 = .ok (.aload_n 0, 1) := by decide +kernel
theorem dX5_keep_14 : decode cX5_keep 14 = .ok (.getfield 7, 3) := by decide +kernel
theorem dX5_keep_17 : decode cX5_keep 17 = .ok (.iload_n 1, 1) := by decide +kernel
theorem dX5_keep_18 : decode cX5_keep 18 = .ok (.iaload, 1) := by decide +kernel
theorem dX5_keep_19 : decode cX5_keep 19 = .ok (.iastore, 1) := by decide +kernel
theorem dX5_keep_20 : decode cX5_keep 20 = .ok (.iinc 1 1, 3) := by decide +kernel
theorem dX5_keep_23 : decode cX5_keep 23 = .ok (.goto (-21), 3) := by decide +kernel
theorem dX5_keep_26 : decode cX5_keep 26 = .ok (.aload_n 0, 1) := by decide +kernel
theorem dX5_keep_27 : decode cX5_keep 27 = .ok (.iconst 1, 1) := by decide +kernel
theorem dX5_keep_28 : decode cX5_keep 28 = .ok (.putfield 126, 3) := by decide +kernel
theorem dX5_keep_31 : decode cX5_keep 31 = .ok (.aload_n 0, 1) := by decide +kernel
theorem dX5_keep_32 : decode cX5_keep 32 = .ok (.getfield 7, 3) := by decide +kernel
theorem dX5_keep_35 : decode cX5_keep 35 = .ok (.bipush 24, 2) := by decide +kernel
theorem dX5_keep_37 : decode cX5_keep 37 = .ok (.iaload, 1) := by decide +kernel
theorem dX5_keep_38 : decode cX5_keep 38 = .ok (.ireturn, 1) := by decide +kernel
theorem dX5_restore_0 : decode cX5_restore 0 = .ok (.aload_n 0, 1) := by decide +kernel
theorem dX5_restore_1 : decode cX5_restore 1 = .ok (.getfield 126, 3) := by decide +kernel
theorem dX5_restore_4 : decode cX5_restore 4 = .ok (.ifCond .ne 6, 3) := by decide +kernel
theorem dX5_restore_7 : decode cX5_restore 7 = .ok (.bipush (-5), 2) := by decide +kernel
theorem dX5_restore_9 : decode cX5_restore 9 = .ok (.ireturn, 1) := by decide +kernel
theorem dX5_restore_10 : decode cX5_restore 10 = .ok (.aload_n 0, 1) := by decide +kernel
theorem dX5_restore_11 : decode cX5_restore 11 = .ok (.invokevirtual 49, 3) := by decide +kernel
theorem dX5_restore_14 : decode cX5_restore 14 = .ok (.iconst 0, 1) := by decide +kernel
theorem dX5_restore_15 : decode cX5_restore 15 = .ok (.istore_n 1, 1) := by decide +kernel
theorem dX5_restore_16 : decode cX5_restore 16 = .ok (.iload_n 1, 1) := by decide +kernel
theorem dX5_restore_17 : decode cX5_restore 17 = .ok (.bipush 65, 2) := by decide +kernel
theorem dX5_restore_19 : decode cX5_restore 19 = .ok (.if_icmp .ge 21, 3) := by decide +kernel
theorem dX5_restore_22 : decode cX5_restore 22 = .ok (.aload_n 0, 1) := by decide +kernel
theorem dX5_restore_23 : decode cX5_restore 23 = .ok (.getfield 7, 3) := by decide +kernel
theorem dX5_restore_26 : decode cX5_restore 26 = .ok (.iload_n 1, 1) := by decide +kernel
theorem dX5_restore_27 : decode cX5_restore 27 = .ok (.aload_n 0, 1) := by decide +kernel
theorem dX5_restore_28 : decode cX5_restore 28 = .ok (.getfield 16, 3) := by decide +kernel
theorem dX5_restore_31 : decode cX5_restore 31 = .ok (.iload_n 1, 1) := by decide +kernel
theorem dX5_restore_32 : decode cX5_restore 32 = .ok (.iaload, 1) := by decide +kernel
theorem dX5_restore_33 : decode cX5_restore 33 = .ok (.iastore, 1) := by decide +kernel
theorem dX5_restore_34 : decode cX5_restore 34 = .ok (.iinc 1 1, 3) := by decide +kernel
theorem dX5_restore_37 : decode cX5_restore 37 = .ok (.goto (-21), 3) := by decide +kernel
theorem dX5_restore_40 : decode cX5_restore 40 = .ok (.aload_n 0, 1) := by decide +kernel
theorem dX5_restore_41 : decode cX5_restore 41 = .ok (.getfield 7, 3) := by decide +kernel
theorem dX5_restore_44 : decode cX5_restore 44 = .ok (.bipush 24, 2) := by decide +kernel
theorem dX5_restore_46 : decode cX5_restore 46 = .ok (.iaload, 1) := by decide +kernel
theorem dX5_restore_47 : decode cX5_restore 47 = .ok (.ireturn, 1) := by decide +kernel
theorem dX5_withHole_0 : decode cX5_withHole 0 = .ok (.iconst 0, 1) := by decide +kernel
theorem dX5_withHole_1 : decode cX5_withHole 1 = .ok (.istore_n 2, 1) := by decide +kernel
theorem dX5_withHole_2 : decode cX5_withHole 2 = .ok (.iconst 0, 1) := by decide +kernel
theorem dX5_withHole_3 : decode cX5_withHole 3 = .ok (.istore_n 3, 1) := by decide +kernel
theorem dX5_withHole_4 : decode cX5_withHole 4 = .ok (.iload_n 3, 1) := by decide +kernel
theorem dX5_withHole_5 : decode cX5_withHole 5 = .ok (.aload_n 0, 1) := by decide +kernel
theorem dX5_withHole_6 : decode cX5_withHole 6 = .ok (.getfield 7, 3) := by decide +kernel
theorem dX5_withHole_9 : decode cX5_withHole 9 = .ok (.bipush 24, 2) := by decide +kernel
theorem dX5_withHole_11 : decode cX5_withHole 11 = .ok (.iaload, 1) := by decide +kernel
theorem dX5_withHole_12 : decode cX5_withHole 12 = .ok (.if_icmp .ge 27, 3) := by decide +kernel
theorem dX5_withHole_15 : decode cX5_withHole 15 = .ok (.iload_n 2, 1) := by decide +kernel
theorem dX5_withHole_16 : decode cX5_withHole 16 = .ok (.aload_n 0, 1) := by decide +kernel
theorem dX5_withHole_17 : decode cX5_withHole 17 = .ok (.getfield 7, 3) := by decide +kernel
theorem dX5_withHole_20 : decode cX5_withHole 20 = .ok (.bipush 25, 2) := by decide +kernel
theorem dX5_withHole_22 : decode cX5_withHole 22 = .ok (.iload_n 3, 1) := by decide +kernel
theorem dX5_withHole_23 : decode cX5_withHole 23 = .ok (.iadd, 1) := by decide +kernel
theorem dX5_withHole_24 : decode cX5_withHole 24 = .ok (.iaload, 1) := by decide +kernel
theorem dX5_withHole_25 : decode cX5_withHole 25 = .ok (.iload_n 1, 1) := by decide +kernel
theorem dX5_withHole_26 : decode cX5_withHole 26 = .ok (.ishr, 1) := by decide +kernel
theorem dX5_withHole_27 : decode cX5_withHole 27 = .ok (.iconst 1, 1) := by decide +kernel
theorem dX5_withHole_28 : decode cX5_withHole 28 = .ok (.iand, 1) := by decide +kernel
theorem dX5_withHole_29 : decode cX5_withHole 29 = .ok (.iload_n 3, 1) := by decide +kernel
theorem dX5_withHole_30 : decode cX5_withHole 30 = .ok (.ishl, 1) := by decide +kernel
theorem dX5_withHole_31 : decode cX5_withHole 31 = .ok (.ior, 1) := by decide +kernel
theorem dX5_withHole_32 : decode cX5_withHole 32 = .ok (.istore_n 2, 1) := by decide +kernel
theorem dX5_withHole_33 : decode cX5_withHole 33 = .ok (.iinc 3 1, 3) := by decide +kernel
theorem dX5_withHole_36 : decode cX5_withHole 36 = .ok (.goto (-32), 3) := by decide +kernel
theorem dX5_withHole_39 : decode cX5_withHole 39 = .ok (.iload_n 2, 1) := by decide +kernel
theorem dX5_withHole_40 : decode cX5_withHole 40 = .ok (.ireturn, 1) := by decide +kernel
theorem dX5_place_0 : decode cX5_place 0 = .ok (.iload_n 1, 1) := by decide +kernel
theorem dX5_place_1 : decode cX5_place 1 = .ok (.invokestatic 45, 3) := by decide +kernel
theorem dX5_place_4 : decode cX5_place 4 = .ok (.ifCond .ne 5, 3) := by decide +kernel
theorem dX5_place_7 : decode cX5_place 7 = .ok (.iconst (-1), 1) := by decide +kernel
theorem dX5_place_8 : decode cX5_place 8 = .ok (.ireturn, 1) := by decide +kernel
theorem dX5_place_9 : decode cX5_place 9 = .ok (.iload_n 2, 1) := by decide +kernel
theorem dX5_place_10 : decode cX5_place 10 = .ok (.tableswitch 67 0 4 #[34, 43, 49, 55, 61], 34) := by decide +kernel
theorem dX5_place_44 : decode cX5_place 44 = .ok (.aload_n 0, 1) := by decide +kernel
theorem dX5_place_45 : decode cX5_place 45 = .ok (.getfield 7, 3) := by decide +kernel
theorem dX5_place_48 : decode cX5_place 48 = .ok (.iconst 0, 1) := by decide +kernel
theorem dX5_place_49 : decode cX5_place 49 = .ok (.iload_n 1, 1) := by decide +kernel
theorem dX5_place_50 : decode cX5_place 50 = .ok (.iadd, 1) := by decide +kernel
theorem dX5_place_51 : decode cX5_place 51 = .ok (.iaload, 1) := by decide +kernel
theorem dX5_place_52 : decode cX5_place 52 = .ok (.ireturn, 1) := by decide +kernel
theorem dX5_place_53 : decode cX5_place 53 = .ok (.aload_n 0, 1) := by decide +kernel
theorem dX5_place_54 : decode cX5_place 54 = .ok (.iload_n 1, 1) := by decide +kernel
theorem dX5_place_55 : decode cX5_place 55 = .ok (.invokevirtual 52, 3) := by decide +kernel
theorem dX5_place_58 : decode cX5_place 58 = .ok (.ireturn, 1) := by decide +kernel
theorem dX5_place_59 : decode cX5_place 59 = .ok (.aload_n 0, 1) := by decide +kernel
theorem dX5_place_60 : decode cX5_place 60 = .ok (.iload_n 1, 1) := by decide +kernel
theorem dX5_place_61 : decode cX5_place 61 = .ok (.invokevirtual 34, 3) := by decide +kernel
theorem dX5_place_64 : decode cX5_place 64 = .ok (.ireturn, 1) := by decide +kernel
theorem dX5_place_65 : decode cX5_place 65 = .ok (.aload_n 0, 1) := by decide +kernel
theorem dX5_place_66 : decode cX5_place 66 = .ok (.iload_n 1, 1) := by decide +kernel
theorem dX5_place_67 : decode cX5_place 67 = .ok (.invokevirtual 130, 3) := by decide +kernel
theorem dX5_place_70 : decode cX5_place 70 = .ok (.ireturn, 1) := by decide +kernel
theorem dX5_place_71 : decode cX5_place 71 = .ok (.aload_n 0, 1) := by decide +kernel
theorem dX5_place_72 : decode cX5_place 72 = .ok (.iload_n 1, 1) := by decide +kernel
theorem dX5_place_73 : decode cX5_place 73 = .ok (.invokevirtual 133, 3) := by decide +kernel
theorem dX5_place_76 : decode cX5_place 76 = .ok (.ireturn, 1) := by decide +kernel
theorem dX5_place_77 : decode cX5_place 77 = .ok (.bipush (-2), 2) := by decide +kernel
theorem dX5_place_79 : decode cX5_place 79 = .ok (.ireturn, 1) := by decide +kernel
theorem dX5_rounds_0 : decode cX5_rounds 0 = .ok (.iconst 0, 1) := by decide +kernel
theorem dX5_rounds_1 : decode cX5_rounds 1 = .ok (.istore_n 1, 1) := by decide +kernel
theorem dX5_rounds_2 : decode cX5_rounds 2 = .ok (.iconst 0, 1) := by decide +kernel
theorem dX5_rounds_3 : decode cX5_rounds 3 = .ok (.istore_n 2, 1) := by decide +kernel
theorem dX5_rounds_4 : decode cX5_rounds 4 = .ok (.iload_n 2, 1) := by decide +kernel
theorem dX5_rounds_5 : decode cX5_rounds 5 = .ok (.bipush 24, 2) := by decide +kernel
theorem dX5_rounds_7 : decode cX5_rounds 7 = .ok (.if_icmp .ge 26, 3) := by decide +kernel
theorem dX5_rounds_10 : decode cX5_rounds 10 = .ok (.iload_n 1, 1) := by decide +kernel
theorem dX5_rounds_11 : decode cX5_rounds 11 = .ok (.aload_n 0, 1) := by decide +kernel
theorem dX5_rounds_12 : decode cX5_rounds 12 = .ok (.iload_n 2, 1) := by decide +kernel
theorem dX5_rounds_13 : decode cX5_rounds 13 = .ok (.invokevirtual 130, 3) := by decide +kernel
theorem dX5_rounds_16 : decode cX5_rounds 16 = .ok (.iload_n 2, 1) := by decide +kernel
theorem dX5_rounds_17 : decode cX5_rounds 17 = .ok (.if_icmp .ne 7, 3) := by decide +kernel
theorem dX5_rounds_20 : decode cX5_rounds 20 = .ok (.iconst 1, 1) := by decide +kernel
theorem dX5_rounds_21 : decode cX5_rounds 21 = .ok (.goto 4, 3) := by decide +kernel
theorem dX5_rounds_24 : decode cX5_rounds 24 = .ok (.iconst 0, 1) := by decide +kernel
theorem dX5_rounds_25 : decode cX5_rounds 25 = .ok (.iadd, 1) := by decide +kernel
theorem dX5_rounds_26 : decode cX5_rounds 26 = .ok (.istore_n 1, 1) := by decide +kernel
theorem dX5_rounds_27 : decode cX5_rounds 27 = .ok (.iinc 2 1, 3) := by decide +kernel
theorem dX5_rounds_30 : decode cX5_rounds 30 = .ok (.goto (-26), 3) := by decide +kernel
theorem dX5_rounds_33 : decode cX5_rounds 33 = .ok (.iload_n 1, 1) := by decide +kernel
theorem dX5_rounds_34 : decode cX5_rounds 34 = .ok (.ireturn, 1) := by decide +kernel
theorem dX5_stays_0 : decode cX5_stays 0 = .ok (.iconst 0, 1) := by decide +kernel
theorem dX5_stays_1 : decode cX5_stays 1 = .ok (.istore_n 1, 1) := by decide +kernel
theorem dX5_stays_2 : decode cX5_stays 2 = .ok (.iconst 0, 1) := by decide +kernel
theorem dX5_stays_3 : decode cX5_stays 3 = .ok (.istore_n 2, 1) := by decide +kernel
theorem dX5_stays_4 : decode cX5_stays 4 = .ok (.iload_n 2, 1) := by decide +kernel
theorem dX5_stays_5 : decode cX5_stays 5 = .ok (.bipush 24, 2) := by decide +kernel
theorem dX5_stays_7 : decode cX5_stays 7 = .ok (.if_icmp .ge 29, 3) := by decide +kernel
theorem dX5_stays_10 : decode cX5_stays 10 = .ok (.iload_n 1, 1) := by decide +kernel
theorem dX5_stays_11 : decode cX5_stays 11 = .ok (.aload_n 0, 1) := by decide +kernel
theorem dX5_stays_12 : decode cX5_stays 12 = .ok (.getfield 7, 3) := by decide +kernel
theorem dX5_stays_15 : decode cX5_stays 15 = .ok (.iconst 0, 1) := by decide +kernel
theorem dX5_stays_16 : decode cX5_stays 16 = .ok (.iload_n 2, 1) := by decide +kernel
theorem dX5_stays_17 : decode cX5_stays 17 = .ok (.iadd, 1) := by decide +kernel
theorem dX5_stays_18 : decode cX5_stays 18 = .ok (.iaload, 1) := by decide +kernel
theorem dX5_stays_19 : decode cX5_stays 19 = .ok (.iload_n 2, 1) := by decide +kernel
theorem dX5_stays_20 : decode cX5_stays 20 = .ok (.if_icmp .ne 7, 3) := by decide +kernel
theorem dX5_stays_23 : decode cX5_stays 23 = .ok (.iconst 1, 1) := by decide +kernel
theorem dX5_stays_24 : decode cX5_stays 24 = .ok (.goto 4, 3) := by decide +kernel
theorem dX5_stays_27 : decode cX5_stays 27 = .ok (.iconst 0, 1) := by decide +kernel
theorem dX5_stays_28 : decode cX5_stays 28 = .ok (.iadd, 1) := by decide +kernel
theorem dX5_stays_29 : decode cX5_stays 29 = .ok (.istore_n 1, 1) := by decide +kernel
theorem dX5_stays_30 : decode cX5_stays 30 = .ok (.iinc 2 1, 3) := by decide +kernel
theorem dX5_stays_33 : decode cX5_stays 33 = .ok (.goto (-29), 3) := by decide +kernel
theorem dX5_stays_36 : decode cX5_stays 36 = .ok (.iload_n 1, 1) := by decide +kernel
theorem dX5_stays_37 : decode cX5_stays 37 = .ok (.ireturn, 1) := by decide +kernel
theorem dX5_longest_0 : decode cX5_longest 0 = .ok (.iconst 0, 1) := by decide +kernel
theorem dX5_longest_1 : decode cX5_longest 1 = .ok (.istore_n 1, 1) := by decide +kernel
theorem dX5_longest_2 : decode cX5_longest 2 = .ok (.iconst 0, 1) := by decide +kernel
theorem dX5_longest_3 : decode cX5_longest 3 = .ok (.istore_n 2, 1) := by decide +kernel
theorem dX5_longest_4 : decode cX5_longest 4 = .ok (.iload_n 2, 1) := by decide +kernel
theorem dX5_longest_5 : decode cX5_longest 5 = .ok (.bipush 24, 2) := by decide +kernel
theorem dX5_longest_7 : decode cX5_longest 7 = .ok (.if_icmp .ge 28, 3) := by decide +kernel
theorem dX5_longest_10 : decode cX5_longest 10 = .ok (.aload_n 0, 1) := by decide +kernel
theorem dX5_longest_11 : decode cX5_longest 11 = .ok (.iload_n 2, 1) := by decide +kernel
theorem dX5_longest_12 : decode cX5_longest 12 = .ok (.invokevirtual 34, 3) := by decide +kernel
theorem dX5_longest_15 : decode cX5_longest 15 = .ok (.iload_n 1, 1) := by decide +kernel
theorem dX5_longest_16 : decode cX5_longest 16 = .ok (.if_icmp .le 11, 3) := by decide +kernel
theorem dX5_longest_19 : decode cX5_longest 19 = .ok (.aload_n 0, 1) := by decide +kernel
theorem dX5_longest_20 : decode cX5_longest 20 = .ok (.iload_n 2, 1) := by decide +kernel
theorem dX5_longest_21 : decode cX5_longest 21 = .ok (.invokevirtual 34, 3) := by decide +kernel
theorem dX5_longest_24 : decode cX5_longest 24 = .ok (.goto 4, 3) := by decide +kernel
theorem dX5_longest_27 : decode cX5_longest 27 = .ok (.iload_n 1, 1) := by decide +kernel
theorem dX5_longest_28 : decode cX5_longest 28 = .ok (.istore_n 1, 1) := by decide +kernel
theorem dX5_longest_29 : decode cX5_longest 29 = .ok (.iinc 2 1, 3) := by decide +kernel
theorem dX5_longest_32 : decode cX5_longest 32 = .ok (.goto (-28), 3) := by decide +kernel
theorem dX5_longest_35 : decode cX5_longest 35 = .ok (.iload_n 1, 1) := by decide +kernel
theorem dX5_longest_36 : decode cX5_longest 36 = .ok (.ireturn, 1) := by decide +kernel
theorem dX5_move_0 : decode cX5_move 0 = .ok (.iload_n 1, 1) := by decide +kernel
theorem dX5_move_1 : decode cX5_move 1 = .ok (.tableswitch 73 0 4 #[35, 40, 45, 50, 55], 35) := by decide +kernel
theorem dX5_move_36 : decode cX5_move 36 = .ok (.aload_n 0, 1) := by decide +kernel
theorem dX5_move_37 : decode cX5_move 37 = .ok (.invokevirtual 38, 3) := by decide +kernel
theorem dX5_move_40 : decode cX5_move 40 = .ok (.ireturn, 1) := by decide +kernel
theorem dX5_move_41 : decode cX5_move 41 = .ok (.aload_n 0, 1) := by decide +kernel
theorem dX5_move_42 : decode cX5_move 42 = .ok (.invokevirtual 136, 3) := by decide +kernel
theorem dX5_move_45 : decode cX5_move 45 = .ok (.ireturn, 1) := by decide +kernel
theorem dX5_move_46 : decode cX5_move 46 = .ok (.aload_n 0, 1) := by decide +kernel
theorem dX5_move_47 : decode cX5_move 47 = .ok (.invokevirtual 139, 3) := by decide +kernel
theorem dX5_move_50 : decode cX5_move 50 = .ok (.ireturn, 1) := by decide +kernel
theorem dX5_move_51 : decode cX5_move 51 = .ok (.aload_n 0, 1) := by decide +kernel
theorem dX5_move_52 : decode cX5_move 52 = .ok (.invokevirtual 142, 3) := by decide +kernel
theorem dX5_move_55 : decode cX5_move 55 = .ok (.ireturn, 1) := by decide +kernel
theorem dX5_move_56 : decode cX5_move 56 = .ok (.bipush 24, 2) := by decide +kernel
theorem dX5_move_58 : decode cX5_move 58 = .ok (.aload_n 0, 1) := by decide +kernel
theorem dX5_move_59 : decode cX5_move 59 = .ok (.invokevirtual 136, 3) := by decide +kernel
theorem dX5_move_62 : decode cX5_move 62 = .ok (.isub, 1) := by decide +kernel
theorem dX5_move_63 : decode cX5_move 63 = .ok (.iconst 2, 1) := by decide +kernel
theorem dX5_move_64 : decode cX5_move 64 = .ok (.irem, 1) := by decide +kernel
theorem dX5_move_65 : decode cX5_move 65 = .ok (.ifCond .ne 7, 3) := by decide +kernel
theorem dX5_move_68 : decode cX5_move 68 = .ok (.iconst 1, 1) := by decide +kernel
theorem dX5_move_69 : decode cX5_move 69 = .ok (.goto 4, 3) := by decide +kernel
theorem dX5_move_72 : decode cX5_move 72 = .ok (.iconst 0, 1) := by decide +kernel
theorem dX5_move_73 : decode cX5_move 73 = .ok (.ireturn, 1) := by decide +kernel
theorem dX5_move_74 : decode cX5_move 74 = .ok (.bipush (-2), 2) := by decide +kernel
theorem dX5_move_76 : decode cX5_move 76 = .ok (.ireturn, 1) := by decide +kernel
theorem dX5_power_0 : decode cX5_power 0 = .ok (.iload_n 1, 1) := by decide +kernel
theorem dX5_power_1 : decode cX5_power 1 = .ok (.invokestatic 45, 3) := by decide +kernel
theorem dX5_power_4 : decode cX5_power 4 = .ok (.ifCond .ne 5, 3) := by decide +kernel
theorem dX5_power_7 : decode cX5_power 7 = .ok (.iconst (-1), 1) := by decide +kernel
theorem dX5_power_8 : decode cX5_power 8 = .ok (.ireturn, 1) := by decide +kernel
theorem dX5_power_9 : decode cX5_power 9 = .ok (.iload_n 2, 1) := by decide +kernel
theorem dX5_power_10 : decode cX5_power 10 = .ok (.invokestatic 116, 3) := by decide +kernel
theorem dX5_power_13 : decode cX5_power 13 = .ok (.ifCond .ne 6, 3) := by decide +kernel
theorem dX5_power_16 : decode cX5_power 16 = .ok (.bipush (-2), 2) := by decide +kernel
theorem dX5_power_18 : decode cX5_power 18 = .ok (.ireturn, 1) := by decide +kernel
theorem dX5_power_19 : decode cX5_power 19 = .ok (.iload_n 1, 1) := by decide +kernel
theorem dX5_power_20 : decode cX5_power 20 = .ok (.istore_n 3, 1) := by decide +kernel
theorem dX5_power_21 : decode cX5_power 21 = .ok (.aload_n 0, 1) := by decide +kernel
theorem dX5_power_22 : decode cX5_power 22 = .ok (.iload_n 2, 1) := by decide +kernel
theorem dX5_power_23 : decode cX5_power 23 = .ok (.invokevirtual 109, 3) := by decide +kernel
theorem dX5_power_26 : decode cX5_power 26 = .ok (.istore 4, 2) := by decide +kernel
theorem dX5_power_28 : decode cX5_power 28 = .ok (.iload 4, 2) := by decide +kernel
theorem dX5_power_30 : decode cX5_power 30 = .ok (.ifCond .le 18, 3) := by decide +kernel
theorem dX5_power_33 : decode cX5_power 33 = .ok (.aload_n 0, 1) := by decide +kernel
theorem dX5_power_34 : decode cX5_power 34 = .ok (.getfield 7, 3) := by decide +kernel
theorem dX5_power_37 : decode cX5_power 37 = .ok (.iconst 0, 1) := by decide +kernel
theorem dX5_power_38 : decode cX5_power 38 = .ok (.iload_n 3, 1) := by decide +kernel
theorem dX5_power_39 : decode cX5_power 39 = .ok (.iadd, 1) := by decide +kernel
theorem dX5_power_40 : decode cX5_power 40 = .ok (.iaload, 1) := by decide +kernel
theorem dX5_power_41 : decode cX5_power 41 = .ok (.istore_n 3, 1) := by decide +kernel
theorem dX5_power_42 : decode cX5_power 42 = .ok (.iinc 4 (-1), 3) := by decide +kernel
theorem dX5_power_45 : decode cX5_power 45 = .ok (.goto (-17), 3) := by decide +kernel
theorem dX5_power_48 : decode cX5_power 48 = .ok (.iload_n 3, 1) := by decide +kernel
theorem dX5_power_49 : decode cX5_power 49 = .ok (.ireturn, 1) := by decide +kernel
theorem dX5_movesTo_0 : decode cX5_movesTo 0 = .ok (.aload_n 0, 1) := by decide +kernel
theorem dX5_movesTo_1 : decode cX5_movesTo 1 = .ok (.invokevirtual 38, 3) := by decide +kernel
theorem dX5_movesTo_4 : decode cX5_movesTo 4 = .ok (.istore 4, 2) := by decide +kernel
theorem dX5_movesTo_6 : decode cX5_movesTo 6 = .ok (.iload_n 3, 1) := by decide +kernel
theorem dX5_movesTo_7 : decode cX5_movesTo 7 = .ok (.ifCond .ne 7, 3) := by decide +kernel
theorem dX5_movesTo_10 : decode cX5_movesTo 10 = .ok (.iload_n 1, 1) := by decide +kernel
theorem dX5_movesTo_11 : decode cX5_movesTo 11 = .ok (.goto 8, 3) := by decide +kernel
theorem dX5_movesTo_14 : decode cX5_movesTo 14 = .ok (.aload_n 0, 1) := by decide +kernel
theorem dX5_movesTo_15 : decode cX5_movesTo 15 = .ok (.iload_n 1, 1) := by decide +kernel
theorem dX5_movesTo_16 : decode cX5_movesTo 16 = .ok (.invokevirtual 42, 3) := by decide +kernel
theorem dX5_movesTo_19 : decode cX5_movesTo 19 = .ok (.istore 5, 2) := by decide +kernel
theorem dX5_movesTo_21 : decode cX5_movesTo 21 = .ok (.iload_n 3, 1) := by decide +kernel
theorem dX5_movesTo_22 : decode cX5_movesTo 22 = .ok (.istore 6, 2) := by decide +kernel
theorem dX5_movesTo_24 : decode cX5_movesTo 24 = .ok (.iload 6, 2) := by decide +kernel
theorem dX5_movesTo_26 : decode cX5_movesTo 26 = .ok (.iload 4, 2) := by decide +kernel
theorem dX5_movesTo_28 : decode cX5_movesTo 28 = .ok (.iload_n 3, 1) := by decide +kernel
theorem dX5_movesTo_29 : decode cX5_movesTo 29 = .ok (.iadd, 1) := by decide +kernel
theorem dX5_movesTo_30 : decode cX5_movesTo 30 = .ok (.if_icmp .ge 26, 3) := by decide +kernel
theorem dX5_movesTo_33 : decode cX5_movesTo 33 = .ok (.iload 5, 2) := by decide +kernel
theorem dX5_movesTo_35 : decode cX5_movesTo 35 = .ok (.iload_n 2, 1) := by decide +kernel
theorem dX5_movesTo_36 : decode cX5_movesTo 36 = .ok (.if_icmp .ne 6, 3) := by decide +kernel
theorem dX5_movesTo_39 : decode cX5_movesTo 39 = .ok (.iload 6, 2) := by decide +kernel
theorem dX5_movesTo_41 : decode cX5_movesTo 41 = .ok (.ireturn, 1) := by decide +kernel
theorem dX5_movesTo_42 : decode cX5_movesTo 42 = .ok (.aload_n 0, 1) := by decide +kernel
theorem dX5_movesTo_43 : decode cX5_movesTo 43 = .ok (.iload 5, 2) := by decide +kernel
theorem dX5_movesTo_45 : decode cX5_movesTo 45 = .ok (.invokevirtual 42, 3) := by decide +kernel
theorem dX5_movesTo_48 : decode cX5_movesTo 48 = .ok (.istore 5, 2) := by decide +kernel
theorem dX5_movesTo_50 : decode cX5_movesTo 50 = .ok (.iinc 6 1, 3) := by decide +kernel
theorem dX5_movesTo_53 : decode cX5_movesTo 53 = .ok (.goto (-29), 3) := by decide +kernel
theorem dX5_movesTo_56 : decode cX5_movesTo 56 = .ok (.bipush (-5), 2) := by decide +kernel
theorem dX5_movesTo_58 : decode cX5_movesTo 58 = .ok (.ireturn, 1) := by decide +kernel
theorem dX5_ticket_0 : decode cX5_ticket 0 = .ok (.aload_n 0, 1) := by decide +kernel
theorem dX5_ticket_1 : decode cX5_ticket 1 = .ok (.iload_n 1, 1) := by decide +kernel
theorem dX5_ticket_2 : decode cX5_ticket 2 = .ok (.invokevirtual 103, 3) := by decide +kernel
theorem dX5_ticket_5 : decode cX5_ticket 5 = .ok (.ifCond .ne 5, 3) := by decide +kernel
theorem dX5_ticket_8 : decode cX5_ticket 8 = .ok (.iconst (-1), 1) := by decide +kernel
theorem dX5_ticket_9 : decode cX5_ticket 9 = .ok (.ireturn, 1) := by decide +kernel
theorem dX5_ticket_10 : decode cX5_ticket 10 = .ok (.aload_n 0, 1) := by decide +kernel
theorem dX5_ticket_11 : decode cX5_ticket 11 = .ok (.getfield 7, 3) := by decide +kernel
theorem dX5_ticket_14 : decode cX5_ticket 14 = .ok (.bipush 25, 2) := by decide +kernel
theorem dX5_ticket_16 : decode cX5_ticket 16 = .ok (.iload_n 1, 1) := by decide +kernel
theorem dX5_ticket_17 : decode cX5_ticket 17 = .ok (.iadd, 1) := by decide +kernel
theorem dX5_ticket_18 : decode cX5_ticket 18 = .ok (.iaload, 1) := by decide +kernel
theorem dX5_ticket_19 : decode cX5_ticket 19 = .ok (.istore_n 3, 1) := by decide +kernel
theorem dX5_ticket_20 : decode cX5_ticket 20 = .ok (.aload_n 0, 1) := by decide +kernel
theorem dX5_ticket_21 : decode cX5_ticket 21 = .ok (.getfield 7, 3) := by decide +kernel
theorem dX5_ticket_24 : decode cX5_ticket 24 = .ok (.bipush 37, 2) := by decide +kernel
theorem dX5_ticket_26 : decode cX5_ticket 26 = .ok (.iload_n 1, 1) := by decide +kernel
theorem dX5_ticket_27 : decode cX5_ticket 27 = .ok (.iadd, 1) := by decide +kernel
theorem dX5_ticket_28 : decode cX5_ticket 28 = .ok (.iaload, 1) := by decide +kernel
theorem dX5_ticket_29 : decode cX5_ticket 29 = .ok (.istore 4, 2) := by decide +kernel
theorem dX5_ticket_31 : decode cX5_ticket 31 = .ok (.iload_n 2, 1) := by decide +kernel
theorem dX5_ticket_32 : decode cX5_ticket 32 = .ok (.tableswitch 122 0 8 #[52, 54, 57, 64, 71, 76, 90, 98, 112], 52) := by decide +kernel
theorem dX5_ticket_84 : decode cX5_ticket 84 = .ok (.iload_n 3, 1) := by decide +kernel
theorem dX5_ticket_85 : decode cX5_ticket 85 = .ok (.ireturn, 1) := by decide +kernel
theorem dX5_ticket_86 : decode cX5_ticket 86 = .ok (.iload 4, 2) := by decide +kernel
theorem dX5_ticket_88 : decode cX5_ticket 88 = .ok (.ireturn, 1) := by decide +kernel
theorem dX5_ticket_89 : decode cX5_ticket 89 = .ok (.iload_n 3, 1) := by decide +kernel
theorem dX5_ticket_90 : decode cX5_ticket 90 = .ok (.iload 4, 2) := by decide +kernel
theorem dX5_ticket_92 : decode cX5_ticket 92 = .ok (.iconst (-1), 1) := by decide +kernel
theorem dX5_ticket_93 : decode cX5_ticket 93 = .ok (.ixor, 1) := by decide +kernel
theorem dX5_ticket_94 : decode cX5_ticket 94 = .ok (.iand, 1) := by decide +kernel
theorem dX5_ticket_95 : decode cX5_ticket 95 = .ok (.ireturn, 1) := by decide +kernel
theorem dX5_ticket_96 : decode cX5_ticket 96 = .ok (.iload 4, 2) := by decide +kernel
theorem dX5_ticket_98 : decode cX5_ticket 98 = .ok (.iload_n 3, 1) := by decide +kernel
theorem dX5_ticket_99 : decode cX5_ticket 99 = .ok (.iconst (-1), 1) := by decide +kernel
theorem dX5_ticket_100 : decode cX5_ticket 100 = .ok (.ixor, 1) := by decide +kernel
theorem dX5_ticket_101 : decode cX5_ticket 101 = .ok (.iand, 1) := by decide +kernel
theorem dX5_ticket_102 : decode cX5_ticket 102 = .ok (.ireturn, 1) := by decide +kernel
theorem dX5_ticket_103 : decode cX5_ticket 103 = .ok (.iload_n 3, 1) := by decide +kernel
theorem dX5_ticket_104 : decode cX5_ticket 104 = .ok (.invokestatic 100, 3) := by decide +kernel
theorem dX5_ticket_107 : decode cX5_ticket 107 = .ok (.ireturn, 1) := by decide +kernel
theorem dX5_ticket_108 : decode cX5_ticket 108 = .ok (.aload_n 0, 1) := by decide +kernel
theorem dX5_ticket_109 : decode cX5_ticket 109 = .ok (.iload_n 1, 1) := by decide +kernel
theorem dX5_ticket_110 : decode cX5_ticket 110 = .ok (.invokevirtual 106, 3) := by decide +kernel
theorem dX5_ticket_113 : decode cX5_ticket 113 = .ok (.ifCond .eq 7, 3) := by decide +kernel
theorem dX5_ticket_116 : decode cX5_ticket 116 = .ok (.iconst 1, 1) := by decide +kernel
theorem dX5_ticket_117 : decode cX5_ticket 117 = .ok (.goto 4, 3) := by decide +kernel
theorem dX5_ticket_120 : decode cX5_ticket 120 = .ok (.iconst 0, 1) := by decide +kernel
theorem dX5_ticket_121 : decode cX5_ticket 121 = .ok (.ireturn, 1) := by decide +kernel
theorem dX5_ticket_122 : decode cX5_ticket 122 = .ok (.aload_n 0, 1) := by decide +kernel
theorem dX5_ticket_123 : decode cX5_ticket 123 = .ok (.iload_n 3, 1) := by decide +kernel
theorem dX5_ticket_124 : decode cX5_ticket 124 = .ok (.iload_n 3, 1) := by decide +kernel
theorem dX5_ticket_125 : decode cX5_ticket 125 = .ok (.iconst 1, 1) := by decide +kernel
theorem dX5_ticket_126 : decode cX5_ticket 126 = .ok (.invokevirtual 145, 3) := by decide +kernel
theorem dX5_ticket_129 : decode cX5_ticket 129 = .ok (.ireturn, 1) := by decide +kernel
theorem dX5_ticket_130 : decode cX5_ticket 130 = .ok (.aload_n 0, 1) := by decide +kernel
theorem dX5_ticket_131 : decode cX5_ticket 131 = .ok (.iload_n 1, 1) := by decide +kernel
theorem dX5_ticket_132 : decode cX5_ticket 132 = .ok (.invokevirtual 123, 3) := by decide +kernel
theorem dX5_ticket_135 : decode cX5_ticket 135 = .ok (.ifCond .eq 7, 3) := by decide +kernel
theorem dX5_ticket_138 : decode cX5_ticket 138 = .ok (.iconst 1, 1) := by decide +kernel
theorem dX5_ticket_139 : decode cX5_ticket 139 = .ok (.goto 4, 3) := by decide +kernel
theorem dX5_ticket_142 : decode cX5_ticket 142 = .ok (.iconst 0, 1) := by decide +kernel
theorem dX5_ticket_143 : decode cX5_ticket 143 = .ok (.ireturn, 1) := by decide +kernel
theorem dX5_ticket_144 : decode cX5_ticket 144 = .ok (.aload_n 0, 1) := by decide +kernel
theorem dX5_ticket_145 : decode cX5_ticket 145 = .ok (.getfield 7, 3) := by decide +kernel
theorem dX5_ticket_148 : decode cX5_ticket 148 = .ok (.bipush 50, 2) := by decide +kernel
theorem dX5_ticket_150 : decode cX5_ticket 150 = .ok (.iload_n 1, 1) := by decide +kernel
theorem dX5_ticket_151 : decode cX5_ticket 151 = .ok (.iadd, 1) := by decide +kernel
theorem dX5_ticket_152 : decode cX5_ticket 152 = .ok (.iaload, 1) := by decide +kernel
theorem dX5_ticket_153 : decode cX5_ticket 153 = .ok (.ireturn, 1) := by decide +kernel
theorem dX5_ticket_154 : decode cX5_ticket 154 = .ok (.bipush (-2), 2) := by decide +kernel
theorem dX5_ticket_156 : decode cX5_ticket 156 = .ok (.ireturn, 1) := by decide +kernel
theorem dX5_alikeIn_0 : decode cX5_alikeIn 0 = .ok (.aload_n 0, 1) := by decide +kernel
theorem dX5_alikeIn_1 : decode cX5_alikeIn 1 = .ok (.iload_n 1, 1) := by decide +kernel
theorem dX5_alikeIn_2 : decode cX5_alikeIn 2 = .ok (.invokevirtual 103, 3) := by decide +kernel
theorem dX5_alikeIn_5 : decode cX5_alikeIn 5 = .ok (.ifCond .eq 37, 3) := by decide +kernel
theorem dX5_alikeIn_8 : decode cX5_alikeIn 8 = .ok (.aload_n 0, 1) := by decide +kernel
theorem dX5_alikeIn_9 : decode cX5_alikeIn 9 = .ok (.iload_n 2, 1) := by decide +kernel
theorem dX5_alikeIn_10 : decode cX5_alikeIn 10 = .ok (.invokevirtual 103, 3) := by decide +kernel
theorem dX5_alikeIn_13 : decode cX5_alikeIn 13 = .ok (.ifCond .eq 29, 3) := by decide +kernel
theorem dX5_alikeIn_16 : decode cX5_alikeIn 16 = .ok (.aload_n 0, 1) := by decide +kernel
theorem dX5_alikeIn_17 : decode cX5_alikeIn 17 = .ok (.aload_n 0, 1) := by decide +kernel
theorem dX5_alikeIn_18 : decode cX5_alikeIn 18 = .ok (.getfield 7, 3) := by decide +kernel
theorem dX5_alikeIn_21 : decode cX5_alikeIn 21 = .ok (.bipush 25, 2) := by decide +kernel
theorem dX5_alikeIn_23 : decode cX5_alikeIn 23 = .ok (.iload_n 1, 1) := by decide +kernel
theorem dX5_alikeIn_24 : decode cX5_alikeIn 24 = .ok (.iadd, 1) := by decide +kernel
theorem dX5_alikeIn_25 : decode cX5_alikeIn 25 = .ok (.iaload, 1) := by decide +kernel
theorem dX5_alikeIn_26 : decode cX5_alikeIn 26 = .ok (.aload_n 0, 1) := by decide +kernel
theorem dX5_alikeIn_27 : decode cX5_alikeIn 27 = .ok (.getfield 7, 3) := by decide +kernel
theorem dX5_alikeIn_30 : decode cX5_alikeIn 30 = .ok (.bipush 25, 2) := by decide +kernel
theorem dX5_alikeIn_32 : decode cX5_alikeIn 32 = .ok (.iload_n 2, 1) := by decide +kernel
theorem dX5_alikeIn_33 : decode cX5_alikeIn 33 = .ok (.iadd, 1) := by decide +kernel
theorem dX5_alikeIn_34 : decode cX5_alikeIn 34 = .ok (.iaload, 1) := by decide +kernel
theorem dX5_alikeIn_35 : decode cX5_alikeIn 35 = .ok (.iconst 0, 1) := by decide +kernel
theorem dX5_alikeIn_36 : decode cX5_alikeIn 36 = .ok (.invokevirtual 145, 3) := by decide +kernel
theorem dX5_alikeIn_39 : decode cX5_alikeIn 39 = .ok (.goto 4, 3) := by decide +kernel
theorem dX5_alikeIn_42 : decode cX5_alikeIn 42 = .ok (.iconst (-1), 1) := by decide +kernel
theorem dX5_alikeIn_43 : decode cX5_alikeIn 43 = .ok (.ireturn, 1) := by decide +kernel
theorem dX5_meetsIn_0 : decode cX5_meetsIn 0 = .ok (.aload_n 0, 1) := by decide +kernel
theorem dX5_meetsIn_1 : decode cX5_meetsIn 1 = .ok (.iload_n 1, 1) := by decide +kernel
theorem dX5_meetsIn_2 : decode cX5_meetsIn 2 = .ok (.invokevirtual 103, 3) := by decide +kernel
theorem dX5_meetsIn_5 : decode cX5_meetsIn 5 = .ok (.ifCond .eq 11, 3) := by decide +kernel
theorem dX5_meetsIn_8 : decode cX5_meetsIn 8 = .ok (.aload_n 0, 1) := by decide +kernel
theorem dX5_meetsIn_9 : decode cX5_meetsIn 9 = .ok (.iload_n 2, 1) := by decide +kernel
theorem dX5_meetsIn_10 : decode cX5_meetsIn 10 = .ok (.invokevirtual 103, 3) := by decide +kernel
theorem dX5_meetsIn_13 : decode cX5_meetsIn 13 = .ok (.ifCond .ne 5, 3) := by decide +kernel
theorem dX5_meetsIn_16 : decode cX5_meetsIn 16 = .ok (.iconst (-1), 1) := by decide +kernel
theorem dX5_meetsIn_17 : decode cX5_meetsIn 17 = .ok (.ireturn, 1) := by decide +kernel
theorem dX5_meetsIn_18 : decode cX5_meetsIn 18 = .ok (.aload_n 0, 1) := by decide +kernel
theorem dX5_meetsIn_19 : decode cX5_meetsIn 19 = .ok (.invokevirtual 38, 3) := by decide +kernel
theorem dX5_meetsIn_22 : decode cX5_meetsIn 22 = .ok (.istore_n 3, 1) := by decide +kernel
theorem dX5_meetsIn_23 : decode cX5_meetsIn 23 = .ok (.aload_n 0, 1) := by decide +kernel
theorem dX5_meetsIn_24 : decode cX5_meetsIn 24 = .ok (.getfield 7, 3) := by decide +kernel
theorem dX5_meetsIn_27 : decode cX5_meetsIn 27 = .ok (.bipush 25, 2) := by decide +kernel
theorem dX5_meetsIn_29 : decode cX5_meetsIn 29 = .ok (.iload_n 1, 1) := by decide +kernel
theorem dX5_meetsIn_30 : decode cX5_meetsIn 30 = .ok (.iadd, 1) := by decide +kernel
theorem dX5_meetsIn_31 : decode cX5_meetsIn 31 = .ok (.iaload, 1) := by decide +kernel
theorem dX5_meetsIn_32 : decode cX5_meetsIn 32 = .ok (.istore 4, 2) := by decide +kernel
theorem dX5_meetsIn_34 : decode cX5_meetsIn 34 = .ok (.iconst 0, 1) := by decide +kernel
theorem dX5_meetsIn_35 : decode cX5_meetsIn 35 = .ok (.istore 5, 2) := by decide +kernel
theorem dX5_meetsIn_37 : decode cX5_meetsIn 37 = .ok (.iload 5, 2) := by decide +kernel
theorem dX5_meetsIn_39 : decode cX5_meetsIn 39 = .ok (.iload_n 3, 1) := by decide +kernel
theorem dX5_meetsIn_40 : decode cX5_meetsIn 40 = .ok (.if_icmp .ge 35, 3) := by decide +kernel
theorem dX5_meetsIn_43 : decode cX5_meetsIn 43 = .ok (.iload 4, 2) := by decide +kernel
theorem dX5_meetsIn_45 : decode cX5_meetsIn 45 = .ok (.aload_n 0, 1) := by decide +kernel
theorem dX5_meetsIn_46 : decode cX5_meetsIn 46 = .ok (.getfield 7, 3) := by decide +kernel
theorem dX5_meetsIn_49 : decode cX5_meetsIn 49 = .ok (.bipush 25, 2) := by decide +kernel
theorem dX5_meetsIn_51 : decode cX5_meetsIn 51 = .ok (.iload_n 2, 1) := by decide +kernel
theorem dX5_meetsIn_52 : decode cX5_meetsIn 52 = .ok (.iadd, 1) := by decide +kernel
theorem dX5_meetsIn_53 : decode cX5_meetsIn 53 = .ok (.iaload, 1) := by decide +kernel
theorem dX5_meetsIn_54 : decode cX5_meetsIn 54 = .ok (.iand, 1) := by decide +kernel
theorem dX5_meetsIn_55 : decode cX5_meetsIn 55 = .ok (.ifCond .eq 6, 3) := by decide +kernel
theorem dX5_meetsIn_58 : decode cX5_meetsIn 58 = .ok (.iload 5, 2) := by decide +kernel
theorem dX5_meetsIn_60 : decode cX5_meetsIn 60 = .ok (.ireturn, 1) := by decide +kernel
theorem dX5_meetsIn_61 : decode cX5_meetsIn 61 = .ok (.aload_n 0, 1) := by decide +kernel
theorem dX5_meetsIn_62 : decode cX5_meetsIn 62 = .ok (.iload 4, 2) := by decide +kernel
theorem dX5_meetsIn_64 : decode cX5_meetsIn 64 = .ok (.invokevirtual 42, 3) := by decide +kernel
theorem dX5_meetsIn_67 : decode cX5_meetsIn 67 = .ok (.istore 4, 2) := by decide +kernel
theorem dX5_meetsIn_69 : decode cX5_meetsIn 69 = .ok (.iinc 5 1, 3) := by decide +kernel
theorem dX5_meetsIn_72 : decode cX5_meetsIn 72 = .ok (.goto (-35), 3) := by decide +kernel
theorem dX5_meetsIn_75 : decode cX5_meetsIn 75 = .ok (.bipush (-5), 2) := by decide +kernel
theorem dX5_meetsIn_77 : decode cX5_meetsIn 77 = .ok (.ireturn, 1) := by decide +kernel
theorem dX5_reason_0 : decode cX5_reason 0 = .ok (.aload_n 0, 1) := by decide +kernel
theorem dX5_reason_1 : decode cX5_reason 1 = .ok (.iload_n 1, 1) := by decide +kernel
theorem dX5_reason_2 : decode cX5_reason 2 = .ok (.invokevirtual 103, 3) := by decide +kernel
theorem dX5_reason_5 : decode cX5_reason 5 = .ok (.ifCond .eq 11, 3) := by decide +kernel
theorem dX5_reason_8 : decode cX5_reason 8 = .ok (.aload_n 0, 1) := by decide +kernel
theorem dX5_reason_9 : decode cX5_reason 9 = .ok (.iload_n 2, 1) := by decide +kernel
theorem dX5_reason_10 : decode cX5_reason 10 = .ok (.invokevirtual 103, 3) := by decide +kernel
theorem dX5_reason_13 : decode cX5_reason 13 = .ok (.ifCond .ne 5, 3) := by decide +kernel
theorem dX5_reason_16 : decode cX5_reason 16 = .ok (.iconst (-1), 1) := by decide +kernel
theorem dX5_reason_17 : decode cX5_reason 17 = .ok (.ireturn, 1) := by decide +kernel
theorem dX5_reason_18 : decode cX5_reason 18 = .ok (.aload_n 0, 1) := by decide +kernel
theorem dX5_reason_19 : decode cX5_reason 19 = .ok (.getfield 7, 3) := by decide +kernel
theorem dX5_reason_22 : decode cX5_reason 22 = .ok (.bipush 25, 2) := by decide +kernel
theorem dX5_reason_24 : decode cX5_reason 24 = .ok (.iload_n 1, 1) := by decide +kernel
theorem dX5_reason_25 : decode cX5_reason 25 = .ok (.iadd, 1) := by decide +kernel
theorem dX5_reason_26 : decode cX5_reason 26 = .ok (.iaload, 1) := by decide +kernel
theorem dX5_reason_27 : decode cX5_reason 27 = .ok (.istore_n 3, 1) := by decide +kernel
theorem dX5_reason_28 : decode cX5_reason 28 = .ok (.aload_n 0, 1) := by decide +kernel
theorem dX5_reason_29 : decode cX5_reason 29 = .ok (.getfield 7, 3) := by decide +kernel
theorem dX5_reason_32 : decode cX5_reason 32 = .ok (.bipush 25, 2) := by decide +kernel
theorem dX5_reason_34 : decode cX5_reason 34 = .ok (.iload_n 2, 1) := by decide +kernel
theorem dX5_reason_35 : decode cX5_reason 35 = .ok (.iadd, 1) := by decide +kernel
theorem dX5_reason_36 : decode cX5_reason 36 = .ok (.iaload, 1) := by decide +kernel
theorem dX5_reason_37 : decode cX5_reason 37 = .ok (.istore 4, 2) := by decide +kernel
theorem dX5_reason_39 : decode cX5_reason 39 = .ok (.iload_n 3, 1) := by decide +kernel
theorem dX5_reason_40 : decode cX5_reason 40 = .ok (.invokestatic 100, 3) := by decide +kernel
theorem dX5_reason_43 : decode cX5_reason 43 = .ok (.iload 4, 2) := by decide +kernel
theorem dX5_reason_45 : decode cX5_reason 45 = .ok (.invokestatic 100, 3) := by decide +kernel
theorem dX5_reason_48 : decode cX5_reason 48 = .ok (.if_icmp .eq 5, 3) := by decide +kernel
theorem dX5_reason_51 : decode cX5_reason 51 = .ok (.iconst 1, 1) := by decide +kernel
theorem dX5_reason_52 : decode cX5_reason 52 = .ok (.ireturn, 1) := by decide +kernel
theorem dX5_reason_53 : decode cX5_reason 53 = .ok (.iconst 1, 1) := by decide +kernel
theorem dX5_reason_54 : decode cX5_reason 54 = .ok (.istore 5, 2) := by decide +kernel
theorem dX5_reason_56 : decode cX5_reason 56 = .ok (.iconst 0, 1) := by decide +kernel
theorem dX5_reason_57 : decode cX5_reason 57 = .ok (.istore 6, 2) := by decide +kernel
theorem dX5_reason_59 : decode cX5_reason 59 = .ok (.iload 6, 2) := by decide +kernel
theorem dX5_reason_61 : decode cX5_reason 61 = .ok (.bipush 24, 2) := by decide +kernel
theorem dX5_reason_63 : decode cX5_reason 63 = .ok (.if_icmp .ge 47, 3) := by decide +kernel
theorem dX5_reason_66 : decode cX5_reason 66 = .ok (.iload 5, 2) := by decide +kernel
theorem dX5_reason_68 : decode cX5_reason 68 = .ok (.ifCond .eq 33, 3) := by decide +kernel
theorem dX5_reason_71 : decode cX5_reason 71 = .ok (.iload_n 3, 1) := by decide +kernel
theorem dX5_reason_72 : decode cX5_reason 72 = .ok (.aload_n 0, 1) := by decide +kernel
theorem dX5_reason_73 : decode cX5_reason 73 = .ok (.iload 6, 2) := by decide +kernel
theorem dX5_reason_75 : decode cX5_reason 75 = .ok (.invokevirtual 149, 3) := by decide +kernel
theorem dX5_reason_78 : decode cX5_reason 78 = .ok (.iand, 1) := by decide +kernel
theorem dX5_reason_79 : decode cX5_reason 79 = .ok (.invokestatic 100, 3) := by decide +kernel
theorem dX5_reason_82 : decode cX5_reason 82 = .ok (.iload 4, 2) := by decide +kernel
theorem dX5_reason_84 : decode cX5_reason 84 = .ok (.aload_n 0, 1) := by decide +kernel
theorem dX5_reason_85 : decode cX5_reason 85 = .ok (.iload 6, 2) := by decide +kernel
theorem dX5_reason_87 : decode cX5_reason 87 = .ok (.invokevirtual 149, 3) := by decide +kernel
theorem dX5_reason_90 : decode cX5_reason 90 = .ok (.iand, 1) := by decide +kernel
theorem dX5_reason_91 : decode cX5_reason 91 = .ok (.invokestatic 100, 3) := by decide +kernel
theorem dX5_reason_94 : decode cX5_reason 94 = .ok (.if_icmp .ne 7, 3) := by decide +kernel
theorem dX5_reason_97 : decode cX5_reason 97 = .ok (.iconst 1, 1) := by decide +kernel
theorem dX5_reason_98 : decode cX5_reason 98 = .ok (.goto 4, 3) := by decide +kernel
theorem dX5_reason_101 : decode cX5_reason 101 = .ok (.iconst 0, 1) := by decide +kernel
theorem dX5_reason_102 : decode cX5_reason 102 = .ok (.istore 5, 2) := by decide +kernel
theorem dX5_reason_104 : decode cX5_reason 104 = .ok (.iinc 6 1, 3) := by decide +kernel
theorem dX5_reason_107 : decode cX5_reason 107 = .ok (.goto (-48), 3) := by decide +kernel
theorem dX5_reason_110 : decode cX5_reason 110 = .ok (.iload 5, 2) := by decide +kernel
theorem dX5_reason_112 : decode cX5_reason 112 = .ok (.ifCond .ne 7, 3) := by decide +kernel
theorem dX5_reason_115 : decode cX5_reason 115 = .ok (.iconst 2, 1) := by decide +kernel
theorem dX5_reason_116 : decode cX5_reason 116 = .ok (.goto 21, 3) := by decide +kernel
theorem dX5_reason_119 : decode cX5_reason 119 = .ok (.aload_n 0, 1) := by decide +kernel
theorem dX5_reason_120 : decode cX5_reason 120 = .ok (.iload_n 3, 1) := by decide +kernel
theorem dX5_reason_121 : decode cX5_reason 121 = .ok (.iload 4, 2) := by decide +kernel
theorem dX5_reason_123 : decode cX5_reason 123 = .ok (.iconst 0, 1) := by decide +kernel
theorem dX5_reason_124 : decode cX5_reason 124 = .ok (.invokevirtual 145, 3) := by decide +kernel
theorem dX5_reason_127 : decode cX5_reason 127 = .ok (.bipush (-5), 2) := by decide +kernel
theorem dX5_reason_129 : decode cX5_reason 129 = .ok (.if_icmp .ne 7, 3) := by decide +kernel
theorem dX5_reason_132 : decode cX5_reason 132 = .ok (.iconst 3, 1) := by decide +kernel
theorem dX5_reason_133 : decode cX5_reason 133 = .ok (.goto 4, 3) := by decide +kernel
theorem dX5_reason_136 : decode cX5_reason 136 = .ok (.iconst 0, 1) := by decide +kernel
theorem dX5_reason_137 : decode cX5_reason 137 = .ok (.ireturn, 1) := by decide +kernel
theorem dX5_kin_0 : decode cX5_kin 0 = .ok (.aload_n 0, 1) := by decide +kernel
theorem dX5_kin_1 : decode cX5_kin 1 = .ok (.iload_n 1, 1) := by decide +kernel
theorem dX5_kin_2 : decode cX5_kin 2 = .ok (.invokevirtual 103, 3) := by decide +kernel
theorem dX5_kin_5 : decode cX5_kin 5 = .ok (.ifCond .ne 5, 3) := by decide +kernel
theorem dX5_kin_8 : decode cX5_kin 8 = .ok (.iconst (-1), 1) := by decide +kernel
theorem dX5_kin_9 : decode cX5_kin 9 = .ok (.ireturn, 1) := by decide +kernel
theorem dX5_kin_10 : decode cX5_kin 10 = .ok (.iconst 0, 1) := by decide +kernel
theorem dX5_kin_11 : decode cX5_kin 11 = .ok (.istore_n 2, 1) := by decide +kernel
theorem dX5_kin_12 : decode cX5_kin 12 = .ok (.iconst 0, 1) := by decide +kernel
theorem dX5_kin_13 : decode cX5_kin 13 = .ok (.istore_n 3, 1) := by decide +kernel
theorem dX5_kin_14 : decode cX5_kin 14 = .ok (.iload_n 3, 1) := by decide +kernel
theorem dX5_kin_15 : decode cX5_kin 15 = .ok (.aload_n 0, 1) := by decide +kernel
theorem dX5_kin_16 : decode cX5_kin 16 = .ok (.getfield 7, 3) := by decide +kernel
theorem dX5_kin_19 : decode cX5_kin 19 = .ok (.bipush 24, 2) := by decide +kernel
theorem dX5_kin_21 : decode cX5_kin 21 = .ok (.iaload, 1) := by decide +kernel
theorem dX5_kin_22 : decode cX5_kin 22 = .ok (.if_icmp .ge 47, 3) := by decide +kernel
theorem dX5_kin_25 : decode cX5_kin 25 = .ok (.iload_n 2, 1) := by decide +kernel
theorem dX5_kin_26 : decode cX5_kin 26 = .ok (.aload_n 0, 1) := by decide +kernel
theorem dX5_kin_27 : decode cX5_kin 27 = .ok (.aload_n 0, 1) := by decide +kernel
theorem dX5_kin_28 : decode cX5_kin 28 = .ok (.getfield 7, 3) := by decide +kernel
theorem dX5_kin_31 : decode cX5_kin 31 = .ok (.bipush 25, 2) := by decide +kernel
theorem dX5_kin_33 : decode cX5_kin 33 = .ok (.iload_n 3, 1) := by decide +kernel
theorem dX5_kin_34 : decode cX5_kin 34 = .ok (.iadd, 1) := by decide +kernel
theorem dX5_kin_35 : decode cX5_kin 35 = .ok (.iaload, 1) := by decide +kernel
theorem dX5_kin_36 : decode cX5_kin 36 = .ok (.aload_n 0, 1) := by decide +kernel
theorem dX5_kin_37 : decode cX5_kin 37 = .ok (.getfield 7, 3) := by decide +kernel
theorem dX5_kin_40 : decode cX5_kin 40 = .ok (.bipush 25, 2) := by decide +kernel
theorem dX5_kin_42 : decode cX5_kin 42 = .ok (.iload_n 1, 1) := by decide +kernel
theorem dX5_kin_43 : decode cX5_kin 43 = .ok (.iadd, 1) := by decide +kernel
theorem dX5_kin_44 : decode cX5_kin 44 = .ok (.iaload, 1) := by decide +kernel
theorem dX5_kin_45 : decode cX5_kin 45 = .ok (.iconst 0, 1) := by decide +kernel
theorem dX5_kin_46 : decode cX5_kin 46 = .ok (.invokevirtual 145, 3) := by decide +kernel
theorem dX5_kin_49 : decode cX5_kin 49 = .ok (.bipush (-5), 2) := by decide +kernel
theorem dX5_kin_51 : decode cX5_kin 51 = .ok (.if_icmp .ne 7, 3) := by decide +kernel
theorem dX5_kin_54 : decode cX5_kin 54 = .ok (.iconst 0, 1) := by decide +kernel
theorem dX5_kin_55 : decode cX5_kin 55 = .ok (.goto 6, 3) := by decide +kernel
theorem dX5_kin_58 : decode cX5_kin 58 = .ok (.iconst 1, 1) := by decide +kernel
theorem dX5_kin_59 : decode cX5_kin 59 = .ok (.iload_n 3, 1) := by decide +kernel
theorem dX5_kin_60 : decode cX5_kin 60 = .ok (.ishl, 1) := by decide +kernel
theorem dX5_kin_61 : decode cX5_kin 61 = .ok (.ior, 1) := by decide +kernel
theorem dX5_kin_62 : decode cX5_kin 62 = .ok (.istore_n 2, 1) := by decide +kernel
theorem dX5_kin_63 : decode cX5_kin 63 = .ok (.iinc 3 1, 3) := by decide +kernel
theorem dX5_kin_66 : decode cX5_kin 66 = .ok (.goto (-52), 3) := by decide +kernel
theorem dX5_kin_69 : decode cX5_kin 69 = .ok (.iload_n 2, 1) := by decide +kernel
theorem dX5_kin_70 : decode cX5_kin 70 = .ok (.ireturn, 1) := by decide +kernel
theorem dX5_lightBut_0 : decode cX5_lightBut 0 = .ok (.ldc 99, 2) := by decide +kernel
theorem dX5_lightBut_2 : decode cX5_lightBut 2 = .ok (.istore_n 2, 1) := by decide +kernel
theorem dX5_lightBut_3 : decode cX5_lightBut 3 = .ok (.iconst 0, 1) := by decide +kernel
theorem dX5_lightBut_4 : decode cX5_lightBut 4 = .ok (.istore_n 3, 1) := by decide +kernel
theorem dX5_lightBut_5 : decode cX5_lightBut 5 = .ok (.iload_n 3, 1) := by decide +kernel
theorem dX5_lightBut_6 : decode cX5_lightBut 6 = .ok (.aload_n 0, 1) := by decide +kernel
theorem dX5_lightBut_7 : decode cX5_lightBut 7 = .ok (.getfield 7, 3) := by decide +kernel
theorem dX5_lightBut_10 : decode cX5_lightBut 10 = .ok (.bipush 24, 2) := by decide +kernel
theorem dX5_lightBut_12 : decode cX5_lightBut 12 = .ok (.iaload, 1) := by decide +kernel
theorem dX5_lightBut_13 : decode cX5_lightBut 13 = .ok (.if_icmp .ge 39, 3) := by decide +kernel
theorem dX5_lightBut_16 : decode cX5_lightBut 16 = .ok (.iload_n 2, 1) := by decide +kernel
theorem dX5_lightBut_17 : decode cX5_lightBut 17 = .ok (.aload_n 0, 1) := by decide +kernel
theorem dX5_lightBut_18 : decode cX5_lightBut 18 = .ok (.iload_n 3, 1) := by decide +kernel
theorem dX5_lightBut_19 : decode cX5_lightBut 19 = .ok (.invokevirtual 123, 3) := by decide +kernel
theorem dX5_lightBut_22 : decode cX5_lightBut 22 = .ok (.ifCond .eq 20, 3) := by decide +kernel
theorem dX5_lightBut_25 : decode cX5_lightBut 25 = .ok (.iload_n 3, 1) := by decide +kernel
theorem dX5_lightBut_26 : decode cX5_lightBut 26 = .ok (.iload_n 1, 1) := by decide +kernel
theorem dX5_lightBut_27 : decode cX5_lightBut 27 = .ok (.if_icmp .eq 15, 3) := by decide +kernel
theorem dX5_lightBut_30 : decode cX5_lightBut 30 = .ok (.aload_n 0, 1) := by decide +kernel
theorem dX5_lightBut_31 : decode cX5_lightBut 31 = .ok (.getfield 7, 3) := by decide +kernel
theorem dX5_lightBut_34 : decode cX5_lightBut 34 = .ok (.bipush 25, 2) := by decide +kernel
theorem dX5_lightBut_36 : decode cX5_lightBut 36 = .ok (.iload_n 3, 1) := by decide +kernel
theorem dX5_lightBut_37 : decode cX5_lightBut 37 = .ok (.iadd, 1) := by decide +kernel
theorem dX5_lightBut_38 : decode cX5_lightBut 38 = .ok (.iaload, 1) := by decide +kernel
theorem dX5_lightBut_39 : decode cX5_lightBut 39 = .ok (.goto 5, 3) := by decide +kernel
theorem dX5_lightBut_42 : decode cX5_lightBut 42 = .ok (.ldc 99, 2) := by decide +kernel
theorem dX5_lightBut_44 : decode cX5_lightBut 44 = .ok (.iand, 1) := by decide +kernel
theorem dX5_lightBut_45 : decode cX5_lightBut 45 = .ok (.istore_n 2, 1) := by decide +kernel
theorem dX5_lightBut_46 : decode cX5_lightBut 46 = .ok (.iinc 3 1, 3) := by decide +kernel
theorem dX5_lightBut_49 : decode cX5_lightBut 49 = .ok (.goto (-44), 3) := by decide +kernel
theorem dX5_lightBut_52 : decode cX5_lightBut 52 = .ok (.iload_n 2, 1) := by decide +kernel
theorem dX5_lightBut_53 : decode cX5_lightBut 53 = .ok (.ireturn, 1) := by decide +kernel
theorem dX5_lit_0 : decode cX5_lit 0 = .ok (.aload_n 0, 1) := by decide +kernel
theorem dX5_lit_1 : decode cX5_lit 1 = .ok (.getfield 7, 3) := by decide +kernel
theorem dX5_lit_4 : decode cX5_lit 4 = .ok (.bipush 49, 2) := by decide +kernel
theorem dX5_lit_6 : decode cX5_lit 6 = .ok (.iaload, 1) := by decide +kernel
theorem dX5_lit_7 : decode cX5_lit 7 = .ok (.ifCond .ne 7, 3) := by decide +kernel
theorem dX5_lit_10 : decode cX5_lit 10 = .ok (.iconst 0, 1) := by decide +kernel
theorem dX5_lit_11 : decode cX5_lit 11 = .ok (.goto 8, 3) := by decide +kernel
theorem dX5_lit_14 : decode cX5_lit 14 = .ok (.aload_n 0, 1) := by decide +kernel
theorem dX5_lit_15 : decode cX5_lit 15 = .ok (.iconst (-1), 1) := by decide +kernel
theorem dX5_lit_16 : decode cX5_lit 16 = .ok (.invokevirtual 152, 3) := by decide +kernel
theorem dX5_lit_19 : decode cX5_lit 19 = .ok (.ireturn, 1) := by decide +kernel
theorem dX5_light_0 : decode cX5_light 0 = .ok (.aload_n 0, 1) := by decide +kernel
theorem dX5_light_1 : decode cX5_light 1 = .ok (.invokevirtual 155, 3) := by decide +kernel
theorem dX5_light_4 : decode cX5_light 4 = .ok (.ireturn, 1) := by decide +kernel
theorem dX5_bestTurn_0 : decode cX5_bestTurn 0 = .ok (.aload_n 0, 1) := by decide +kernel
theorem dX5_bestTurn_1 : decode cX5_bestTurn 1 = .ok (.iload_n 1, 1) := by decide +kernel
theorem dX5_bestTurn_2 : decode cX5_bestTurn 2 = .ok (.invokevirtual 103, 3) := by decide +kernel
theorem dX5_bestTurn_5 : decode cX5_bestTurn 5 = .ok (.ifCond .ne 5, 3) := by decide +kernel
theorem dX5_bestTurn_8 : decode cX5_bestTurn 8 = .ok (.iconst (-1), 1) := by decide +kernel
theorem dX5_bestTurn_9 : decode cX5_bestTurn 9 = .ok (.ireturn, 1) := by decide +kernel
theorem dX5_bestTurn_10 : decode cX5_bestTurn 10 = .ok (.iload_n 2, 1) := by decide +kernel
theorem dX5_bestTurn_11 : decode cX5_bestTurn 11 = .ok (.iconst 0, 1) := by decide +kernel
theorem dX5_bestTurn_12 : decode cX5_bestTurn 12 = .ok (.iconst 1, 1) := by decide +kernel
theorem dX5_bestTurn_13 : decode cX5_bestTurn 13 = .ok (.invokestatic 26, 3) := by decide +kernel
theorem dX5_bestTurn_16 : decode cX5_bestTurn 16 = .ok (.ifCond .ne 6, 3) := by decide +kernel
theorem dX5_bestTurn_19 : decode cX5_bestTurn 19 = .ok (.bipush (-2), 2) := by decide +kernel
theorem dX5_bestTurn_21 : decode cX5_bestTurn 21 = .ok (.ireturn, 1) := by decide +kernel
theorem dX5_bestTurn_22 : decode cX5_bestTurn 22 = .ok (.aload_n 0, 1) := by decide +kernel
theorem dX5_bestTurn_23 : decode cX5_bestTurn 23 = .ok (.iload_n 1, 1) := by decide +kernel
theorem dX5_bestTurn_24 : decode cX5_bestTurn 24 = .ok (.invokevirtual 123, 3) := by decide +kernel
theorem dX5_bestTurn_27 : decode cX5_bestTurn 27 = .ok (.ifCond .ne 6, 3) := by decide +kernel
theorem dX5_bestTurn_30 : decode cX5_bestTurn 30 = .ok (.bipush (-4), 2) := by decide +kernel
theorem dX5_bestTurn_32 : decode cX5_bestTurn 32 = .ok (.ireturn, 1) := by decide +kernel
theorem dX5_bestTurn_33 : decode cX5_bestTurn 33 = .ok (.aload_n 0, 1) := by decide +kernel
theorem dX5_bestTurn_34 : decode cX5_bestTurn 34 = .ok (.iload_n 1, 1) := by decide +kernel
theorem dX5_bestTurn_35 : decode cX5_bestTurn 35 = .ok (.invokevirtual 152, 3) := by decide +kernel
theorem dX5_bestTurn_38 : decode cX5_bestTurn 38 = .ok (.istore_n 3, 1) := by decide +kernel
theorem dX5_bestTurn_39 : decode cX5_bestTurn 39 = .ok (.aload_n 0, 1) := by decide +kernel
theorem dX5_bestTurn_40 : decode cX5_bestTurn 40 = .ok (.invokevirtual 38, 3) := by decide +kernel
theorem dX5_bestTurn_43 : decode cX5_bestTurn 43 = .ok (.istore 4, 2) := by decide +kernel
theorem dX5_bestTurn_45 : decode cX5_bestTurn 45 = .ok (.aload_n 0, 1) := by decide +kernel
theorem dX5_bestTurn_46 : decode cX5_bestTurn 46 = .ok (.getfield 7, 3) := by decide +kernel
theorem dX5_bestTurn_49 : decode cX5_bestTurn 49 = .ok (.bipush 25, 2) := by decide +kernel
theorem dX5_bestTurn_51 : decode cX5_bestTurn 51 = .ok (.iload_n 1, 1) := by decide +kernel
theorem dX5_bestTurn_52 : decode cX5_bestTurn 52 = .ok (.iadd, 1) := by decide +kernel
theorem dX5_bestTurn_53 : decode cX5_bestTurn 53 = .ok (.iaload, 1) := by decide +kernel
theorem dX5_bestTurn_54 : decode cX5_bestTurn 54 = .ok (.istore 5, 2) := by decide +kernel
theorem dX5_bestTurn_56 : decode cX5_bestTurn 56 = .ok (.iconst 0, 1) := by decide +kernel
theorem dX5_bestTurn_57 : decode cX5_bestTurn 57 = .ok (.istore 6, 2) := by decide +kernel
theorem dX5_bestTurn_59 : decode cX5_bestTurn 59 = .ok (.iconst (-1), 1) := by decide +kernel
theorem dX5_bestTurn_60 : decode cX5_bestTurn 60 = .ok (.istore 7, 2) := by decide +kernel
theorem dX5_bestTurn_62 : decode cX5_bestTurn 62 = .ok (.iconst 0, 1) := by decide +kernel
theorem dX5_bestTurn_63 : decode cX5_bestTurn 63 = .ok (.istore 8, 2) := by decide +kernel
theorem dX5_bestTurn_65 : decode cX5_bestTurn 65 = .ok (.iload 8, 2) := by decide +kernel
theorem dX5_bestTurn_67 : decode cX5_bestTurn 67 = .ok (.iload 4, 2) := by decide +kernel
theorem dX5_bestTurn_69 : decode cX5_bestTurn 69 = .ok (.if_icmp .ge 58, 3) := by decide +kernel
theorem dX5_bestTurn_72 : decode cX5_bestTurn 72 = .ok (.iload 5, 2) := by decide +kernel
theorem dX5_bestTurn_74 : decode cX5_bestTurn 74 = .ok (.iload_n 3, 1) := by decide +kernel
theorem dX5_bestTurn_75 : decode cX5_bestTurn 75 = .ok (.iand, 1) := by decide +kernel
theorem dX5_bestTurn_76 : decode cX5_bestTurn 76 = .ok (.invokestatic 100, 3) := by decide +kernel
theorem dX5_bestTurn_79 : decode cX5_bestTurn 79 = .ok (.istore 9, 2) := by decide +kernel
theorem dX5_bestTurn_81 : decode cX5_bestTurn 81 = .ok (.iload 9, 2) := by decide +kernel
theorem dX5_bestTurn_83 : decode cX5_bestTurn 83 = .ok (.iload 7, 2) := by decide +kernel
theorem dX5_bestTurn_85 : decode cX5_bestTurn 85 = .ok (.if_icmp .le 8, 3) := by decide +kernel
theorem dX5_bestTurn_88 : decode cX5_bestTurn 88 = .ok (.iload 8, 2) := by decide +kernel
theorem dX5_bestTurn_90 : decode cX5_bestTurn 90 = .ok (.goto 5, 3) := by decide +kernel
theorem dX5_bestTurn_93 : decode cX5_bestTurn 93 = .ok (.iload 6, 2) := by decide +kernel
theorem dX5_bestTurn_95 : decode cX5_bestTurn 95 = .ok (.istore 6, 2) := by decide +kernel
theorem dX5_bestTurn_97 : decode cX5_bestTurn 97 = .ok (.iload 9, 2) := by decide +kernel
theorem dX5_bestTurn_99 : decode cX5_bestTurn 99 = .ok (.iload 7, 2) := by decide +kernel
theorem dX5_bestTurn_101 : decode cX5_bestTurn 101 = .ok (.if_icmp .le 8, 3) := by decide +kernel
theorem dX5_bestTurn_104 : decode cX5_bestTurn 104 = .ok (.iload 9, 2) := by decide +kernel
theorem dX5_bestTurn_106 : decode cX5_bestTurn 106 = .ok (.goto 5, 3) := by decide +kernel
theorem dX5_bestTurn_109 : decode cX5_bestTurn 109 = .ok (.iload 7, 2) := by decide +kernel
theorem dX5_bestTurn_111 : decode cX5_bestTurn 111 = .ok (.istore 7, 2) := by decide +kernel
theorem dX5_bestTurn_113 : decode cX5_bestTurn 113 = .ok (.aload_n 0, 1) := by decide +kernel
theorem dX5_bestTurn_114 : decode cX5_bestTurn 114 = .ok (.iload 5, 2) := by decide +kernel
theorem dX5_bestTurn_116 : decode cX5_bestTurn 116 = .ok (.invokevirtual 42, 3) := by decide +kernel
theorem dX5_bestTurn_119 : decode cX5_bestTurn 119 = .ok (.istore 5, 2) := by decide +kernel
theorem dX5_bestTurn_121 : decode cX5_bestTurn 121 = .ok (.iinc 8 1, 3) := by decide +kernel
theorem dX5_bestTurn_124 : decode cX5_bestTurn 124 = .ok (.goto (-59), 3) := by decide +kernel
theorem dX5_bestTurn_127 : decode cX5_bestTurn 127 = .ok (.iload_n 2, 1) := by decide +kernel
theorem dX5_bestTurn_128 : decode cX5_bestTurn 128 = .ok (.ifCond .ne 8, 3) := by decide +kernel
theorem dX5_bestTurn_131 : decode cX5_bestTurn 131 = .ok (.iload 6, 2) := by decide +kernel
theorem dX5_bestTurn_133 : decode cX5_bestTurn 133 = .ok (.goto 5, 3) := by decide +kernel
theorem dX5_bestTurn_136 : decode cX5_bestTurn 136 = .ok (.iload 7, 2) := by decide +kernel
theorem dX5_bestTurn_138 : decode cX5_bestTurn 138 = .ok (.ireturn, 1) := by decide +kernel
theorem dX5_allOf_0 : decode cX5_allOf 0 = .ok (.iconst 0, 1) := by decide +kernel
theorem dX5_allOf_1 : decode cX5_allOf 1 = .ok (.istore_n 2, 1) := by decide +kernel
theorem dX5_allOf_2 : decode cX5_allOf 2 = .ok (.iconst 0, 1) := by decide +kernel
theorem dX5_allOf_3 : decode cX5_allOf 3 = .ok (.istore_n 3, 1) := by decide +kernel
theorem dX5_allOf_4 : decode cX5_allOf 4 = .ok (.iload_n 3, 1) := by decide +kernel
theorem dX5_allOf_5 : decode cX5_allOf 5 = .ok (.aload_n 0, 1) := by decide +kernel
theorem dX5_allOf_6 : decode cX5_allOf 6 = .ok (.getfield 7, 3) := by decide +kernel
theorem dX5_allOf_9 : decode cX5_allOf 9 = .ok (.bipush 24, 2) := by decide +kernel
theorem dX5_allOf_11 : decode cX5_allOf 11 = .ok (.iaload, 1) := by decide +kernel
theorem dX5_allOf_12 : decode cX5_allOf 12 = .ok (.if_icmp .ge 23, 3) := by decide +kernel
theorem dX5_allOf_15 : decode cX5_allOf 15 = .ok (.iload_n 2, 1) := by decide +kernel
theorem dX5_allOf_16 : decode cX5_allOf 16 = .ok (.aload_n 0, 1) := by decide +kernel
theorem dX5_allOf_17 : decode cX5_allOf 17 = .ok (.getfield 7, 3) := by decide +kernel
theorem dX5_allOf_20 : decode cX5_allOf 20 = .ok (.iload_n 1, 1) := by decide +kernel
theorem dX5_allOf_21 : decode cX5_allOf 21 = .ok (.iload_n 3, 1) := by decide +kernel
theorem dX5_allOf_22 : decode cX5_allOf 22 = .ok (.iadd, 1) := by decide +kernel
theorem dX5_allOf_23 : decode cX5_allOf 23 = .ok (.iaload, 1) := by decide +kernel
theorem dX5_allOf_24 : decode cX5_allOf 24 = .ok (.invokestatic 100, 3) := by decide +kernel
theorem dX5_allOf_27 : decode cX5_allOf 27 = .ok (.iadd, 1) := by decide +kernel
theorem dX5_allOf_28 : decode cX5_allOf 28 = .ok (.istore_n 2, 1) := by decide +kernel
theorem dX5_allOf_29 : decode cX5_allOf 29 = .ok (.iinc 3 1, 3) := by decide +kernel
theorem dX5_allOf_32 : decode cX5_allOf 32 = .ok (.goto (-28), 3) := by decide +kernel
theorem dX5_allOf_35 : decode cX5_allOf 35 = .ok (.iload_n 2, 1) := by decide +kernel
theorem dX5_allOf_36 : decode cX5_allOf 36 = .ok (.ireturn, 1) := by decide +kernel
theorem dX5_falseOnes_0 : decode cX5_falseOnes 0 = .ok (.iconst 0, 1) := by decide +kernel
theorem dX5_falseOnes_1 : decode cX5_falseOnes 1 = .ok (.istore_n 1, 1) := by decide +kernel
theorem dX5_falseOnes_2 : decode cX5_falseOnes 2 = .ok (.iconst 0, 1) := by decide +kernel
theorem dX5_falseOnes_3 : decode cX5_falseOnes 3 = .ok (.istore_n 2, 1) := by decide +kernel
theorem dX5_falseOnes_4 : decode cX5_falseOnes 4 = .ok (.iload_n 2, 1) := by decide +kernel
theorem dX5_falseOnes_5 : decode cX5_falseOnes 5 = .ok (.aload_n 0, 1) := by decide +kernel
theorem dX5_falseOnes_6 : decode cX5_falseOnes 6 = .ok (.getfield 7, 3) := by decide +kernel
theorem dX5_falseOnes_9 : decode cX5_falseOnes 9 = .ok (.bipush 24, 2) := by decide +kernel
theorem dX5_falseOnes_11 : decode cX5_falseOnes 11 = .ok (.iaload, 1) := by decide +kernel
theorem dX5_falseOnes_12 : decode cX5_falseOnes 12 = .ok (.if_icmp .ge 25, 3) := by decide +kernel
theorem dX5_falseOnes_15 : decode cX5_falseOnes 15 = .ok (.iload_n 1, 1) := by decide +kernel
theorem dX5_falseOnes_16 : decode cX5_falseOnes 16 = .ok (.aload_n 0, 1) := by decide +kernel
theorem dX5_falseOnes_17 : decode cX5_falseOnes 17 = .ok (.iload_n 2, 1) := by decide +kernel
theorem dX5_falseOnes_18 : decode cX5_falseOnes 18 = .ok (.invokevirtual 106, 3) := by decide +kernel
theorem dX5_falseOnes_21 : decode cX5_falseOnes 21 = .ok (.ifCond .eq 7, 3) := by decide +kernel
theorem dX5_falseOnes_24 : decode cX5_falseOnes 24 = .ok (.iconst 1, 1) := by decide +kernel
theorem dX5_falseOnes_25 : decode cX5_falseOnes 25 = .ok (.goto 4, 3) := by decide +kernel
theorem dX5_falseOnes_28 : decode cX5_falseOnes 28 = .ok (.iconst 0, 1) := by decide +kernel
theorem dX5_falseOnes_29 : decode cX5_falseOnes 29 = .ok (.iadd, 1) := by decide +kernel
theorem dX5_falseOnes_30 : decode cX5_falseOnes 30 = .ok (.istore_n 1, 1) := by decide +kernel
theorem dX5_falseOnes_31 : decode cX5_falseOnes 31 = .ok (.iinc 2 1, 3) := by decide +kernel
theorem dX5_falseOnes_34 : decode cX5_falseOnes 34 = .ok (.goto (-30), 3) := by decide +kernel
theorem dX5_falseOnes_37 : decode cX5_falseOnes 37 = .ok (.iload_n 1, 1) := by decide +kernel
theorem dX5_falseOnes_38 : decode cX5_falseOnes 38 = .ok (.ireturn, 1) := by decide +kernel
theorem dX5_count_0 : decode cX5_count 0 = .ok (.iload_n 1, 1) := by decide +kernel
theorem dX5_count_1 : decode cX5_count 1 = .ok (.tableswitch 139 0 10 #[59, 67, 78, 83, 90, 97, 105, 113, 121, 129, 134], 59) := by decide +kernel
theorem dX5_count_60 : decode cX5_count 60 = .ok (.aload_n 0, 1) := by decide +kernel
theorem dX5_count_61 : decode cX5_count 61 = .ok (.getfield 7, 3) := by decide +kernel
theorem dX5_count_64 : decode cX5_count 64 = .ok (.bipush 24, 2) := by decide +kernel
theorem dX5_count_66 : decode cX5_count 66 = .ok (.iaload, 1) := by decide +kernel
theorem dX5_count_67 : decode cX5_count 67 = .ok (.ireturn, 1) := by decide +kernel
theorem dX5_count_68 : decode cX5_count 68 = .ok (.aload_n 0, 1) := by decide +kernel
theorem dX5_count_69 : decode cX5_count 69 = .ok (.getfield 7, 3) := by decide +kernel
theorem dX5_count_72 : decode cX5_count 72 = .ok (.bipush 49, 2) := by decide +kernel
theorem dX5_count_74 : decode cX5_count 74 = .ok (.iaload, 1) := by decide +kernel
theorem dX5_count_75 : decode cX5_count 75 = .ok (.invokestatic 100, 3) := by decide +kernel
theorem dX5_count_78 : decode cX5_count 78 = .ok (.ireturn, 1) := by decide +kernel
theorem dX5_count_79 : decode cX5_count 79 = .ok (.aload_n 0, 1) := by decide +kernel
theorem dX5_count_80 : decode cX5_count 80 = .ok (.invokevirtual 158, 3) := by decide +kernel
theorem dX5_count_83 : decode cX5_count 83 = .ok (.ireturn, 1) := by decide +kernel
theorem dX5_count_84 : decode cX5_count 84 = .ok (.aload_n 0, 1) := by decide +kernel
theorem dX5_count_85 : decode cX5_count 85 = .ok (.bipush 25, 2) := by decide +kernel
theorem dX5_count_87 : decode cX5_count 87 = .ok (.invokevirtual 161, 3) := by decide +kernel
theorem dX5_count_90 : decode cX5_count 90 = .ok (.ireturn, 1) := by decide +kernel
theorem dX5_count_91 : decode cX5_count 91 = .ok (.aload_n 0, 1) := by decide +kernel
theorem dX5_count_92 : decode cX5_count 92 = .ok (.bipush 37, 2) := by decide +kernel
theorem dX5_count_94 : decode cX5_count 94 = .ok (.invokevirtual 161, 3) := by decide +kernel
theorem dX5_count_97 : decode cX5_count 97 = .ok (.ireturn, 1) := by decide +kernel
theorem dX5_count_98 : decode cX5_count 98 = .ok (.aload_n 0, 1) := by decide +kernel
theorem dX5_count_99 : decode cX5_count 99 = .ok (.invokevirtual 155, 3) := by decide +kernel
theorem dX5_count_102 : decode cX5_count 102 = .ok (.invokestatic 100, 3) := by decide +kernel
theorem dX5_count_105 : decode cX5_count 105 = .ok (.ireturn, 1) := by decide +kernel
theorem dX5_count_106 : decode cX5_count 106 = .ok (.aload_n 0, 1) := by decide +kernel
theorem dX5_count_107 : decode cX5_count 107 = .ok (.getfield 7, 3) := by decide +kernel
theorem dX5_count_110 : decode cX5_count 110 = .ok (.bipush 62, 2) := by decide +kernel
theorem dX5_count_112 : decode cX5_count 112 = .ok (.iaload, 1) := by decide +kernel
theorem dX5_count_113 : decode cX5_count 113 = .ok (.ireturn, 1) := by decide +kernel
theorem dX5_count_114 : decode cX5_count 114 = .ok (.aload_n 0, 1) := by decide +kernel
theorem dX5_count_115 : decode cX5_count 115 = .ok (.getfield 7, 3) := by decide +kernel
theorem dX5_count_118 : decode cX5_count 118 = .ok (.bipush 63, 2) := by decide +kernel
theorem dX5_count_120 : decode cX5_count 120 = .ok (.iaload, 1) := by decide +kernel
theorem dX5_count_121 : decode cX5_count 121 = .ok (.ireturn, 1) := by decide +kernel
theorem dX5_count_122 : decode cX5_count 122 = .ok (.aload_n 0, 1) := by decide +kernel
theorem dX5_count_123 : decode cX5_count 123 = .ok (.getfield 7, 3) := by decide +kernel
theorem dX5_count_126 : decode cX5_count 126 = .ok (.bipush 64, 2) := by decide +kernel
theorem dX5_count_128 : decode cX5_count 128 = .ok (.iaload, 1) := by decide +kernel
theorem dX5_count_129 : decode cX5_count 129 = .ok (.ireturn, 1) := by decide +kernel
theorem dX5_count_130 : decode cX5_count 130 = .ok (.aload_n 0, 1) := by decide +kernel
theorem dX5_count_131 : decode cX5_count 131 = .ok (.getfield 30, 3) := by decide +kernel
theorem dX5_count_134 : decode cX5_count 134 = .ok (.ireturn, 1) := by decide +kernel
theorem dX5_count_135 : decode cX5_count 135 = .ok (.aload_n 0, 1) := by decide +kernel
theorem dX5_count_136 : decode cX5_count 136 = .ok (.getfield 58, 3) := by decide +kernel
theorem dX5_count_139 : decode cX5_count 139 = .ok (.ireturn, 1) := by decide +kernel
theorem dX5_count_140 : decode cX5_count 140 = .ok (.bipush (-2), 2) := by decide +kernel
theorem dX5_count_142 : decode cX5_count 142 = .ok (.ireturn, 1) := by decide +kernel
theorem dJ6_bitCount_0f7a4_0 : decode cJ6_bitCount_0f7a4 0 = .ok (.iload_n 0, 1) := by decide +kernel
theorem dJ6_bitCount_0f7a4_1 : decode cJ6_bitCount_0f7a4 1 = .ok (.iload_n 0, 1) := by decide +kernel
theorem dJ6_bitCount_0f7a4_2 : decode cJ6_bitCount_0f7a4 2 = .ok (.iconst 1, 1) := by decide +kernel
theorem dJ6_bitCount_0f7a4_3 : decode cJ6_bitCount_0f7a4 3 = .ok (.iushr, 1) := by decide +kernel
theorem dJ6_bitCount_0f7a4_4 : decode cJ6_bitCount_0f7a4 4 = .ok (.ldc_w 265, 3) := by decide +kernel
theorem dJ6_bitCount_0f7a4_7 : decode cJ6_bitCount_0f7a4 7 = .ok (.iand, 1) := by decide +kernel
theorem dJ6_bitCount_0f7a4_8 : decode cJ6_bitCount_0f7a4 8 = .ok (.isub, 1) := by decide +kernel
theorem dJ6_bitCount_0f7a4_9 : decode cJ6_bitCount_0f7a4 9 = .ok (.istore_n 0, 1) := by decide +kernel
theorem dJ6_bitCount_0f7a4_10 : decode cJ6_bitCount_0f7a4 10 = .ok (.iload_n 0, 1) := by decide +kernel
theorem dJ6_bitCount_0f7a4_11 : decode cJ6_bitCount_0f7a4 11 = .ok (.ldc_w 266, 3) := by decide +kernel
theorem dJ6_bitCount_0f7a4_14 : decode cJ6_bitCount_0f7a4 14 = .ok (.iand, 1) := by decide +kernel
theorem dJ6_bitCount_0f7a4_15 : decode cJ6_bitCount_0f7a4 15 = .ok (.iload_n 0, 1) := by decide +kernel
theorem dJ6_bitCount_0f7a4_16 : decode cJ6_bitCount_0f7a4 16 = .ok (.iconst 2, 1) := by decide +kernel
theorem dJ6_bitCount_0f7a4_17 : decode cJ6_bitCount_0f7a4 17 = .ok (.iushr, 1) := by decide +kernel
theorem dJ6_bitCount_0f7a4_18 : decode cJ6_bitCount_0f7a4 18 = .ok (.ldc_w 266, 3) := by decide +kernel
theorem dJ6_bitCount_0f7a4_21 : decode cJ6_bitCount_0f7a4 21 = .ok (.iand, 1) := by decide +kernel
theorem dJ6_bitCount_0f7a4_22 : decode cJ6_bitCount_0f7a4 22 = .ok (.iadd, 1) := by decide +kernel
theorem dJ6_bitCount_0f7a4_23 : decode cJ6_bitCount_0f7a4 23 = .ok (.istore_n 0, 1) := by decide +kernel
theorem dJ6_bitCount_0f7a4_24 : decode cJ6_bitCount_0f7a4 24 = .ok (.iload_n 0, 1) := by decide +kernel
theorem dJ6_bitCount_0f7a4_25 : decode cJ6_bitCount_0f7a4 25 = .ok (.iload_n 0, 1) := by decide +kernel
theorem dJ6_bitCount_0f7a4_26 : decode cJ6_bitCount_0f7a4 26 = .ok (.iconst 4, 1) := by decide +kernel
theorem dJ6_bitCount_0f7a4_27 : decode cJ6_bitCount_0f7a4 27 = .ok (.iushr, 1) := by decide +kernel
theorem dJ6_bitCount_0f7a4_28 : decode cJ6_bitCount_0f7a4 28 = .ok (.iadd, 1) := by decide +kernel
theorem dJ6_bitCount_0f7a4_29 : decode cJ6_bitCount_0f7a4 29 = .ok (.ldc_w 267, 3) := by decide +kernel
theorem dJ6_bitCount_0f7a4_32 : decode cJ6_bitCount_0f7a4 32 = .ok (.iand, 1) := by decide +kernel
theorem dJ6_bitCount_0f7a4_33 : decode cJ6_bitCount_0f7a4 33 = .ok (.istore_n 0, 1) := by decide +kernel
theorem dJ6_bitCount_0f7a4_34 : decode cJ6_bitCount_0f7a4 34 = .ok (.iload_n 0, 1) := by decide +kernel
theorem dJ6_bitCount_0f7a4_35 : decode cJ6_bitCount_0f7a4 35 = .ok (.iload_n 0, 1) := by decide +kernel
theorem dJ6_bitCount_0f7a4_36 : decode cJ6_bitCount_0f7a4 36 = .ok (.bipush 8, 2) := by decide +kernel
theorem dJ6_bitCount_0f7a4_38 : decode cJ6_bitCount_0f7a4 38 = .ok (.iushr, 1) := by decide +kernel
theorem dJ6_bitCount_0f7a4_39 : decode cJ6_bitCount_0f7a4 39 = .ok (.iadd, 1) := by decide +kernel
theorem dJ6_bitCount_0f7a4_40 : decode cJ6_bitCount_0f7a4 40 = .ok (.istore_n 0, 1) := by decide +kernel
theorem dJ6_bitCount_0f7a4_41 : decode cJ6_bitCount_0f7a4 41 = .ok (.iload_n 0, 1) := by decide +kernel
theorem dJ6_bitCount_0f7a4_42 : decode cJ6_bitCount_0f7a4 42 = .ok (.iload_n 0, 1) := by decide +kernel
theorem dJ6_bitCount_0f7a4_43 : decode cJ6_bitCount_0f7a4 43 = .ok (.bipush 16, 2) := by decide +kernel
theorem dJ6_bitCount_0f7a4_45 : decode cJ6_bitCount_0f7a4 45 = .ok (.iushr, 1) := by decide +kernel
theorem dJ6_bitCount_0f7a4_46 : decode cJ6_bitCount_0f7a4 46 = .ok (.iadd, 1) := by decide +kernel
theorem dJ6_bitCount_0f7a4_47 : decode cJ6_bitCount_0f7a4 47 = .ok (.istore_n 0, 1) := by decide +kernel
theorem dJ6_bitCount_0f7a4_48 : decode cJ6_bitCount_0f7a4 48 = .ok (.iload_n 0, 1) := by decide +kernel
theorem dJ6_bitCount_0f7a4_49 : decode cJ6_bitCount_0f7a4 49 = .ok (.bipush 63, 2) := by decide +kernel
theorem dJ6_bitCount_0f7a4_51 : decode cJ6_bitCount_0f7a4 51 = .ok (.iand, 1) := by decide +kernel
theorem dJ6_bitCount_0f7a4_52 : decode cJ6_bitCount_0f7a4 52 = .ok (.ireturn, 1) := by decide +kernel
theorem dJ9_floorMod_7cf53_0 : decode cJ9_floorMod_7cf53 0 = .ok (.iload_n 0, 1) := by decide +kernel
theorem dJ9_floorMod_7cf53_1 : decode cJ9_floorMod_7cf53 1 = .ok (.iload_n 1, 1) := by decide +kernel
theorem dJ9_floorMod_7cf53_2 : decode cJ9_floorMod_7cf53 2 = .ok (.irem, 1) := by decide +kernel
theorem dJ9_floorMod_7cf53_3 : decode cJ9_floorMod_7cf53 3 = .ok (.istore_n 2, 1) := by decide +kernel
theorem dJ9_floorMod_7cf53_4 : decode cJ9_floorMod_7cf53 4 = .ok (.iload_n 0, 1) := by decide +kernel
theorem dJ9_floorMod_7cf53_5 : decode cJ9_floorMod_7cf53 5 = .ok (.iload_n 1, 1) := by decide +kernel
theorem dJ9_floorMod_7cf53_6 : decode cJ9_floorMod_7cf53 6 = .ok (.ixor, 1) := by decide +kernel
theorem dJ9_floorMod_7cf53_7 : decode cJ9_floorMod_7cf53 7 = .ok (.ifCond .ge 11, 3) := by decide +kernel
theorem dJ9_floorMod_7cf53_10 : decode cJ9_floorMod_7cf53 10 = .ok (.iload_n 2, 1) := by decide +kernel
theorem dJ9_floorMod_7cf53_11 : decode cJ9_floorMod_7cf53 11 = .ok (.ifCond .eq 7, 3) := by decide +kernel
theorem dJ9_floorMod_7cf53_14 : decode cJ9_floorMod_7cf53 14 = .ok (.iload_n 2, 1) := by decide +kernel
theorem dJ9_floorMod_7cf53_15 : decode cJ9_floorMod_7cf53 15 = .ok (.iload_n 1, 1) := by decide +kernel
theorem dJ9_floorMod_7cf53_16 : decode cJ9_floorMod_7cf53 16 = .ok (.iadd, 1) := by decide +kernel
theorem dJ9_floorMod_7cf53_17 : decode cJ9_floorMod_7cf53 17 = .ok (.ireturn, 1) := by decide +kernel
theorem dJ9_floorMod_7cf53_18 : decode cJ9_floorMod_7cf53 18 = .ok (.iload_n 2, 1) := by decide +kernel
theorem dJ9_floorMod_7cf53_19 : decode cJ9_floorMod_7cf53 19 = .ok (.ireturn, 1) := by decide +kernel
theorem dJ9_max_7cf53_0 : decode cJ9_max_7cf53 0 = .ok (.iload_n 0, 1) := by decide +kernel
theorem dJ9_max_7cf53_1 : decode cJ9_max_7cf53 1 = .ok (.iload_n 1, 1) := by decide +kernel
theorem dJ9_max_7cf53_2 : decode cJ9_max_7cf53 2 = .ok (.if_icmp .lt 7, 3) := by decide +kernel
theorem dJ9_max_7cf53_5 : decode cJ9_max_7cf53 5 = .ok (.iload_n 0, 1) := by decide +kernel
theorem dJ9_max_7cf53_6 : decode cJ9_max_7cf53 6 = .ok (.goto 4, 3) := by decide +kernel
theorem dJ9_max_7cf53_9 : decode cJ9_max_7cf53 9 = .ok (.iload_n 1, 1) := by decide +kernel
theorem dJ9_max_7cf53_10 : decode cJ9_max_7cf53 10 = .ok (.ireturn, 1) := by decide +kernel
theorem dJ9_min_7cf53_0 : decode cJ9_min_7cf53 0 = .ok (.iload_n 0, 1) := by decide +kernel
theorem dJ9_min_7cf53_1 : decode cJ9_min_7cf53 1 = .ok (.iload_n 1, 1) := by decide +kernel
theorem dJ9_min_7cf53_2 : decode cJ9_min_7cf53 2 = .ok (.if_icmp .gt 7, 3) := by decide +kernel
theorem dJ9_min_7cf53_5 : decode cJ9_min_7cf53 5 = .ok (.iload_n 0, 1) := by decide +kernel
theorem dJ9_min_7cf53_6 : decode cJ9_min_7cf53 6 = .ok (.goto 4, 3) := by decide +kernel
theorem dJ9_min_7cf53_9 : decode cJ9_min_7cf53 9 = .ok (.iload_n 1, 1) := by decide +kernel
theorem dJ9_min_7cf53_10 : decode cJ9_min_7cf53 10 = .ok (.ireturn, 1) := by decide +kernel
theorem dL_law_0 : decode cL_law 0 = .ok (.new 7, 3) := by decide +kernel
theorem dL_law_3 : decode cL_law 3 = .ok (.dup, 1) := by decide +kernel
theorem dL_law_4 : decode cL_law 4 = .ok (.invokespecial 9, 3) := by decide +kernel
theorem dL_law_7 : decode cL_law 7 = .ok (.astore_n 1, 1) := by decide +kernel
theorem dL_law_8 : decode cL_law 8 = .ok (.new 10, 3) := by decide +kernel
theorem dL_law_11 : decode cL_law 11 = .ok (.dup, 1) := by decide +kernel
theorem dL_law_12 : decode cL_law 12 = .ok (.invokespecial 12, 3) := by decide +kernel
theorem dL_law_15 : decode cL_law 15 = .ok (.astore_n 2, 1) := by decide +kernel
theorem dL_law_16 : decode cL_law 16 = .ok (.iconst 0, 1) := by decide +kernel
theorem dL_law_17 : decode cL_law 17 = .ok (.istore_n 3, 1) := by decide +kernel
theorem dL_law_18 : decode cL_law 18 = .ok (.iload_n 3, 1) := by decide +kernel
theorem dL_law_19 : decode cL_law 19 = .ok (.aload_n 0, 1) := by decide +kernel
theorem dL_law_20 : decode cL_law 20 = .ok (.arraylength, 1) := by decide +kernel
theorem dL_law_21 : decode cL_law 21 = .ok (.iconst 4, 1) := by decide +kernel
theorem dL_law_22 : decode cL_law 22 = .ok (.isub, 1) := by decide +kernel
theorem dL_law_23 : decode cL_law 23 = .ok (.if_icmp .gt 854, 3) := by decide +kernel
theorem dL_law_26 : decode cL_law 26 = .ok (.aload_n 0, 1) := by decide +kernel
theorem dL_law_27 : decode cL_law 27 = .ok (.iload_n 3, 1) := by decide +kernel
theorem dL_law_28 : decode cL_law 28 = .ok (.iaload, 1) := by decide +kernel
theorem dL_law_29 : decode cL_law 29 = .ok (.bipush 31, 2) := by decide +kernel
theorem dL_law_31 : decode cL_law 31 = .ok (.iand, 1) := by decide +kernel
theorem dL_law_32 : decode cL_law 32 = .ok (.tableswitch 839 0 26 #[124, 157, 170, 183, 206, 239, 298, 321, 354, 403, 426, 451, 464, 487, 500, 513, 526, 559, 582, 615, 648, 681, 714, 747, 770, 783, 816], 124) := by decide +kernel
theorem dL_law_156 : decode cL_law 156 = .ok (.aload_n 1, 1) := by decide +kernel
theorem dL_law_157 : decode cL_law 157 = .ok (.aload_n 0, 1) := by decide +kernel
theorem dL_law_158 : decode cL_law 158 = .ok (.iload_n 3, 1) := by decide +kernel
theorem dL_law_159 : decode cL_law 159 = .ok (.iconst 1, 1) := by decide +kernel
theorem dL_law_160 : decode cL_law 160 = .ok (.iadd, 1) := by decide +kernel
theorem dL_law_161 : decode cL_law 161 = .ok (.iaload, 1) := by decide +kernel
theorem dL_law_162 : decode cL_law 162 = .ok (.aload_n 0, 1) := by decide +kernel
theorem dL_law_163 : decode cL_law 163 = .ok (.iload_n 3, 1) := by decide +kernel
theorem dL_law_164 : decode cL_law 164 = .ok (.iconst 2, 1) := by decide +kernel
theorem dL_law_165 : decode cL_law 165 = .ok (.iadd, 1) := by decide +kernel
theorem dL_law_166 : decode cL_law 166 = .ok (.iaload, 1) := by decide +kernel
theorem dL_law_167 : decode cL_law 167 = .ok (.invokevirtual 13, 3) := by decide +kernel
theorem dL_law_170 : decode cL_law 170 = .ok (.aload_n 2, 1) := by decide +kernel
theorem dL_law_171 : decode cL_law 171 = .ok (.aload_n 0, 1) := by decide +kernel
theorem dL_law_172 : decode cL_law 172 = .ok (.iload_n 3, 1) := by decide +kernel
theorem dL_law_173 : decode cL_law 173 = .ok (.iconst 1, 1) := by decide +kernel
theorem dL_law_174 : decode cL_law 174 = .ok (.iadd, 1) := by decide +kernel
theorem dL_law_175 : decode cL_law 175 = .ok (.iaload, 1) := by decide +kernel
theorem dL_law_176 : decode cL_law 176 = .ok (.aload_n 0, 1) := by decide +kernel
theorem dL_law_177 : decode cL_law 177 = .ok (.iload_n 3, 1) := by decide +kernel
theorem dL_law_178 : decode cL_law 178 = .ok (.iconst 2, 1) := by decide +kernel
theorem dL_law_179 : decode cL_law 179 = .ok (.iadd, 1) := by decide +kernel
theorem dL_law_180 : decode cL_law 180 = .ok (.iaload, 1) := by decide +kernel
theorem dL_law_181 : decode cL_law 181 = .ok (.invokevirtual 17, 3) := by decide +kernel
theorem dL_law_184 : decode cL_law 184 = .ok (.if_icmp .eq 687, 3) := by decide +kernel
theorem dL_law_187 : decode cL_law 187 = .ok (.iconst 0, 1) := by decide +kernel
theorem dL_law_188 : decode cL_law 188 = .ok (.ireturn, 1) := by decide +kernel
theorem dL_law_189 : decode cL_law 189 = .ok (.aload_n 1, 1) := by decide +kernel
theorem dL_law_190 : decode cL_law 190 = .ok (.invokevirtual 18, 3) := by decide +kernel
theorem dL_law_193 : decode cL_law 193 = .ok (.aload_n 2, 1) := by decide +kernel
theorem dL_law_194 : decode cL_law 194 = .ok (.invokevirtual 22, 3) := by decide +kernel
theorem dL_law_197 : decode cL_law 197 = .ok (.if_icmp .eq 674, 3) := by decide +kernel
theorem dL_law_200 : decode cL_law 200 = .ok (.iconst 0, 1) := by decide +kernel
theorem dL_law_201 : decode cL_law 201 = .ok (.ireturn, 1) := by decide +kernel
theorem dL_law_202 : decode cL_law 202 = .ok (.aload_n 1, 1) := by decide +kernel
theorem dL_law_203 : decode cL_law 203 = .ok (.invokevirtual 23, 3) := by decide +kernel
theorem dL_law_206 : decode cL_law 206 = .ok (.aload_n 2, 1) := by decide +kernel
theorem dL_law_207 : decode cL_law 207 = .ok (.invokevirtual 26, 3) := by decide +kernel
theorem dL_law_210 : decode cL_law 210 = .ok (.if_icmp .eq 661, 3) := by decide +kernel
theorem dL_law_213 : decode cL_law 213 = .ok (.iconst 0, 1) := by decide +kernel
theorem dL_law_214 : decode cL_law 214 = .ok (.ireturn, 1) := by decide +kernel
theorem dL_law_215 : decode cL_law 215 = .ok (.aload_n 1, 1) := by decide +kernel
theorem dL_law_216 : decode cL_law 216 = .ok (.aload_n 0, 1) := by decide +kernel
theorem dL_law_217 : decode cL_law 217 = .ok (.iload_n 3, 1) := by decide +kernel
theorem dL_law_218 : decode cL_law 218 = .ok (.iconst 1, 1) := by decide +kernel
theorem dL_law_219 : decode cL_law 219 = .ok (.iadd, 1) := by decide +kernel
theorem dL_law_220 : decode cL_law 220 = .ok (.iaload, 1) := by decide +kernel
theorem dL_law_221 : decode cL_law 221 = .ok (.invokevirtual 27, 3) := by decide +kernel
theorem dL_law_224 : decode cL_law 224 = .ok (.aload_n 2, 1) := by decide +kernel
theorem dL_law_225 : decode cL_law 225 = .ok (.aload_n 0, 1) := by decide +kernel
theorem dL_law_226 : decode cL_law 226 = .ok (.iload_n 3, 1) := by decide +kernel
theorem dL_law_227 : decode cL_law 227 = .ok (.iconst 1, 1) := by decide +kernel
theorem dL_law_228 : decode cL_law 228 = .ok (.iadd, 1) := by decide +kernel
theorem dL_law_229 : decode cL_law 229 = .ok (.iaload, 1) := by decide +kernel
theorem dL_law_230 : decode cL_law 230 = .ok (.invokevirtual 31, 3) := by decide +kernel
theorem dL_law_233 : decode cL_law 233 = .ok (.if_icmp .eq 638, 3) := by decide +kernel
theorem dL_law_236 : decode cL_law 236 = .ok (.iconst 0, 1) := by decide +kernel
theorem dL_law_237 : decode cL_law 237 = .ok (.ireturn, 1) := by decide +kernel
theorem dL_law_238 : decode cL_law 238 = .ok (.aload_n 1, 1) := by decide +kernel
theorem dL_law_239 : decode cL_law 239 = .ok (.aload_n 0, 1) := by decide +kernel
theorem dL_law_240 : decode cL_law 240 = .ok (.iload_n 3, 1) := by decide +kernel
theorem dL_law_241 : decode cL_law 241 = .ok (.iconst 1, 1) := by decide +kernel
theorem dL_law_242 : decode cL_law 242 = .ok (.iadd, 1) := by decide +kernel
theorem dL_law_243 : decode cL_law 243 = .ok (.iaload, 1) := by decide +kernel
theorem dL_law_244 : decode cL_law 244 = .ok (.aload_n 0, 1) := by decide +kernel
theorem dL_law_245 : decode cL_law 245 = .ok (.iload_n 3, 1) := by decide +kernel
theorem dL_law_246 : decode cL_law 246 = .ok (.iconst 2, 1) := by decide +kernel
theorem dL_law_247 : decode cL_law 247 = .ok (.iadd, 1) := by decide +kernel
theorem dL_law_248 : decode cL_law 248 = .ok (.iaload, 1) := by decide +kernel
theorem dL_law_249 : decode cL_law 249 = .ok (.invokevirtual 32, 3) := by decide +kernel
theorem dL_law_252 : decode cL_law 252 = .ok (.aload_n 2, 1) := by decide +kernel
theorem dL_law_253 : decode cL_law 253 = .ok (.aload_n 0, 1) := by decide +kernel
theorem dL_law_254 : decode cL_law 254 = .ok (.iload_n 3, 1) := by decide +kernel
theorem dL_law_255 : decode cL_law 255 = .ok (.iconst 1, 1) := by decide +kernel
theorem dL_law_256 : decode cL_law 256 = .ok (.iadd, 1) := by decide +kernel
theorem dL_law_257 : decode cL_law 257 = .ok (.iaload, 1) := by decide +kernel
theorem dL_law_258 : decode cL_law 258 = .ok (.aload_n 0, 1) := by decide +kernel
theorem dL_law_259 : decode cL_law 259 = .ok (.iload_n 3, 1) := by decide +kernel
theorem dL_law_260 : decode cL_law 260 = .ok (.iconst 2, 1) := by decide +kernel
theorem dL_law_261 : decode cL_law 261 = .ok (.iadd, 1) := by decide +kernel
theorem dL_law_262 : decode cL_law 262 = .ok (.iaload, 1) := by decide +kernel
theorem dL_law_263 : decode cL_law 263 = .ok (.invokevirtual 35, 3) := by decide +kernel
theorem dL_law_266 : decode cL_law 266 = .ok (.if_icmp .eq 605, 3) := by decide +kernel
theorem dL_law_269 : decode cL_law 269 = .ok (.iconst 0, 1) := by decide +kernel
theorem dL_law_270 : decode cL_law 270 = .ok (.ireturn, 1) := by decide +kernel
theorem dL_law_271 : decode cL_law 271 = .ok (.aload_n 1, 1) := by decide +kernel
theorem dL_law_272 : decode cL_law 272 = .ok (.aload_n 0, 1) := by decide +kernel
theorem dL_law_273 : decode cL_law 273 = .ok (.iload_n 3, 1) := by decide +kernel
theorem dL_law_274 : decode cL_law 274 = .ok (.iconst 1, 1) := by decide +kernel
theorem dL_law_275 : decode cL_law 275 = .ok (.iadd, 1) := by decide +kernel
theorem dL_law_276 : decode cL_law 276 = .ok (.iaload, 1) := by decide +kernel
theorem dL_law_277 : decode cL_law 277 = .ok (.aload_n 0, 1) := by decide +kernel
theorem dL_law_278 : decode cL_law 278 = .ok (.iload_n 3, 1) := by decide +kernel
theorem dL_law_279 : decode cL_law 279 = .ok (.iconst 2, 1) := by decide +kernel
theorem dL_law_280 : decode cL_law 280 = .ok (.iadd, 1) := by decide +kernel
theorem dL_law_281 : decode cL_law 281 = .ok (.iaload, 1) := by decide +kernel
theorem dL_law_282 : decode cL_law 282 = .ok (.aload_n 0, 1) := by decide +kernel
theorem dL_law_283 : decode cL_law 283 = .ok (.iload_n 3, 1) := by decide +kernel
theorem dL_law_284 : decode cL_law 284 = .ok (.iconst 3, 1) := by decide +kernel
theorem dL_law_285 : decode cL_law 285 = .ok (.iadd, 1) := by decide +kernel
theorem dL_law_286 : decode cL_law 286 = .ok (.iaload, 1) := by decide +kernel
theorem dL_law_287 : decode cL_law 287 = .ok (.ifCond .eq 7, 3) := by decide +kernel
theorem dL_law_290 : decode cL_law 290 = .ok (.iconst 1, 1) := by decide +kernel
theorem dL_law_291 : decode cL_law 291 = .ok (.goto 4, 3) := by decide +kernel
theorem dL_law_294 : decode cL_law 294 = .ok (.iconst 0, 1) := by decide +kernel
theorem dL_law_295 : decode cL_law 295 = .ok (.invokevirtual 36, 3) := by decide +kernel
theorem dL_law_298 : decode cL_law 298 = .ok (.aload_n 2, 1) := by decide +kernel
theorem dL_law_299 : decode cL_law 299 = .ok (.aload_n 0, 1) := by decide +kernel
theorem dL_law_300 : decode cL_law 300 = .ok (.iload_n 3, 1) := by decide +kernel
theorem dL_law_301 : decode cL_law 301 = .ok (.iconst 1, 1) := by decide +kernel
theorem dL_law_302 : decode cL_law 302 = .ok (.iadd, 1) := by decide +kernel
theorem dL_law_303 : decode cL_law 303 = .ok (.iaload, 1) := by decide +kernel
theorem dL_law_304 : decode cL_law 304 = .ok (.aload_n 0, 1) := by decide +kernel
theorem dL_law_305 : decode cL_law 305 = .ok (.iload_n 3, 1) := by decide +kernel
theorem dL_law_306 : decode cL_law 306 = .ok (.iconst 2, 1) := by decide +kernel
theorem dL_law_307 : decode cL_law 307 = .ok (.iadd, 1) := by decide +kernel
theorem dL_law_308 : decode cL_law 308 = .ok (.iaload, 1) := by decide +kernel
theorem dL_law_309 : decode cL_law 309 = .ok (.aload_n 0, 1) := by decide +kernel
theorem dL_law_310 : decode cL_law 310 = .ok (.iload_n 3, 1) := by decide +kernel
theorem dL_law_311 : decode cL_law 311 = .ok (.iconst 3, 1) := by decide +kernel
theorem dL_law_312 : decode cL_law 312 = .ok (.iadd, 1) := by decide +kernel
theorem dL_law_313 : decode cL_law 313 = .ok (.iaload, 1) := by decide +kernel
theorem dL_law_314 : decode cL_law 314 = .ok (.ifCond .eq 7, 3) := by decide +kernel
theorem dL_law_317 : decode cL_law 317 = .ok (.iconst 1, 1) := by decide +kernel
theorem dL_law_318 : decode cL_law 318 = .ok (.goto 4, 3) := by decide +kernel
theorem dL_law_321 : decode cL_law 321 = .ok (.iconst 0, 1) := by decide +kernel
theorem dL_law_322 : decode cL_law 322 = .ok (.invokevirtual 40, 3) := by decide +kernel
theorem dL_law_325 : decode cL_law 325 = .ok (.if_icmp .eq 546, 3) := by decide +kernel
theorem dL_law_328 : decode cL_law 328 = .ok (.iconst 0, 1) := by decide +kernel
theorem dL_law_329 : decode cL_law 329 = .ok (.ireturn, 1) := by decide +kernel
theorem dL_law_330 : decode cL_law 330 = .ok (.aload_n 1, 1) := by decide +kernel
theorem dL_law_331 : decode cL_law 331 = .ok (.aload_n 0, 1) := by decide +kernel
theorem dL_law_332 : decode cL_law 332 = .ok (.iload_n 3, 1) := by decide +kernel
theorem dL_law_333 : decode cL_law 333 = .ok (.iconst 1, 1) := by decide +kernel
theorem dL_law_334 : decode cL_law 334 = .ok (.iadd, 1) := by decide +kernel
theorem dL_law_335 : decode cL_law 335 = .ok (.iaload, 1) := by decide +kernel
theorem dL_law_336 : decode cL_law 336 = .ok (.invokevirtual 41, 3) := by decide +kernel
theorem dL_law_339 : decode cL_law 339 = .ok (.aload_n 2, 1) := by decide +kernel
theorem dL_law_340 : decode cL_law 340 = .ok (.aload_n 0, 1) := by decide +kernel
theorem dL_law_341 : decode cL_law 341 = .ok (.iload_n 3, 1) := by decide +kernel
theorem dL_law_342 : decode cL_law 342 = .ok (.iconst 1, 1) := by decide +kernel
theorem dL_law_343 : decode cL_law 343 = .ok (.iadd, 1) := by decide +kernel
theorem dL_law_344 : decode cL_law 344 = .ok (.iaload, 1) := by decide +kernel
theorem dL_law_345 : decode cL_law 345 = .ok (.invokevirtual 44, 3) := by decide +kernel
theorem dL_law_348 : decode cL_law 348 = .ok (.if_icmp .eq 523, 3) := by decide +kernel
theorem dL_law_351 : decode cL_law 351 = .ok (.iconst 0, 1) := by decide +kernel
theorem dL_law_352 : decode cL_law 352 = .ok (.ireturn, 1) := by decide +kernel
theorem dL_law_353 : decode cL_law 353 = .ok (.aload_n 1, 1) := by decide +kernel
theorem dL_law_354 : decode cL_law 354 = .ok (.aload_n 0, 1) := by decide +kernel
theorem dL_law_355 : decode cL_law 355 = .ok (.iload_n 3, 1) := by decide +kernel
theorem dL_law_356 : decode cL_law 356 = .ok (.iconst 1, 1) := by decide +kernel
theorem dL_law_357 : decode cL_law 357 = .ok (.iadd, 1) := by decide +kernel
theorem dL_law_358 : decode cL_law 358 = .ok (.iaload, 1) := by decide +kernel
theorem dL_law_359 : decode cL_law 359 = .ok (.aload_n 0, 1) := by decide +kernel
theorem dL_law_360 : decode cL_law 360 = .ok (.iload_n 3, 1) := by decide +kernel
theorem dL_law_361 : decode cL_law 361 = .ok (.iconst 2, 1) := by decide +kernel
theorem dL_law_362 : decode cL_law 362 = .ok (.iadd, 1) := by decide +kernel
theorem dL_law_363 : decode cL_law 363 = .ok (.iaload, 1) := by decide +kernel
theorem dL_law_364 : decode cL_law 364 = .ok (.invokevirtual 45, 3) := by decide +kernel
theorem dL_law_367 : decode cL_law 367 = .ok (.aload_n 2, 1) := by decide +kernel
theorem dL_law_368 : decode cL_law 368 = .ok (.aload_n 0, 1) := by decide +kernel
theorem dL_law_369 : decode cL_law 369 = .ok (.iload_n 3, 1) := by decide +kernel
theorem dL_law_370 : decode cL_law 370 = .ok (.iconst 1, 1) := by decide +kernel
theorem dL_law_371 : decode cL_law 371 = .ok (.iadd, 1) := by decide +kernel
theorem dL_law_372 : decode cL_law 372 = .ok (.iaload, 1) := by decide +kernel
theorem dL_law_373 : decode cL_law 373 = .ok (.aload_n 0, 1) := by decide +kernel
theorem dL_law_374 : decode cL_law 374 = .ok (.iload_n 3, 1) := by decide +kernel
theorem dL_law_375 : decode cL_law 375 = .ok (.iconst 2, 1) := by decide +kernel
theorem dL_law_376 : decode cL_law 376 = .ok (.iadd, 1) := by decide +kernel
theorem dL_law_377 : decode cL_law 377 = .ok (.iaload, 1) := by decide +kernel
theorem dL_law_378 : decode cL_law 378 = .ok (.invokevirtual 48, 3) := by decide +kernel
theorem dL_law_381 : decode cL_law 381 = .ok (.if_icmp .eq 490, 3) := by decide +kernel
theorem dL_law_384 : decode cL_law 384 = .ok (.iconst 0, 1) := by decide +kernel
theorem dL_law_385 : decode cL_law 385 = .ok (.ireturn, 1) := by decide +kernel
theorem dL_law_386 : decode cL_law 386 = .ok (.aload_n 1, 1) := by decide +kernel
theorem dL_law_387 : decode cL_law 387 = .ok (.aload_n 0, 1) := by decide +kernel
theorem dL_law_388 : decode cL_law 388 = .ok (.iload_n 3, 1) := by decide +kernel
theorem dL_law_389 : decode cL_law 389 = .ok (.iconst 1, 1) := by decide +kernel
theorem dL_law_390 : decode cL_law 390 = .ok (.iadd, 1) := by decide +kernel
theorem dL_law_391 : decode cL_law 391 = .ok (.iaload, 1) := by decide +kernel
theorem dL_law_392 : decode cL_law 392 = .ok (.aload_n 0, 1) := by decide +kernel
theorem dL_law_393 : decode cL_law 393 = .ok (.iload_n 3, 1) := by decide +kernel
theorem dL_law_394 : decode cL_law 394 = .ok (.iconst 2, 1) := by decide +kernel
theorem dL_law_395 : decode cL_law 395 = .ok (.iadd, 1) := by decide +kernel
theorem dL_law_396 : decode cL_law 396 = .ok (.iaload, 1) := by decide +kernel
theorem dL_law_397 : decode cL_law 397 = .ok (.ifCond .eq 7, 3) := by decide +kernel
theorem dL_law_400 : decode cL_law 400 = .ok (.iconst 1, 1) := by decide +kernel
theorem dL_law_401 : decode cL_law 401 = .ok (.goto 4, 3) := by decide +kernel
theorem dL_law_404 : decode cL_law 404 = .ok (.iconst 0, 1) := by decide +kernel
theorem dL_law_405 : decode cL_law 405 = .ok (.invokevirtual 49, 3) := by decide +kernel
theorem dL_law_408 : decode cL_law 408 = .ok (.aload_n 2, 1) := by decide +kernel
theorem dL_law_409 : decode cL_law 409 = .ok (.aload_n 0, 1) := by decide +kernel
theorem dL_law_410 : decode cL_law 410 = .ok (.iload_n 3, 1) := by decide +kernel
theorem dL_law_411 : decode cL_law 411 = .ok (.iconst 1, 1) := by decide +kernel
theorem dL_law_412 : decode cL_law 412 = .ok (.iadd, 1) := by decide +kernel
theorem dL_law_413 : decode cL_law 413 = .ok (.iaload, 1) := by decide +kernel
theorem dL_law_414 : decode cL_law 414 = .ok (.aload_n 0, 1) := by decide +kernel
theorem dL_law_415 : decode cL_law 415 = .ok (.iload_n 3, 1) := by decide +kernel
theorem dL_law_416 : decode cL_law 416 = .ok (.iconst 2, 1) := by decide +kernel
theorem dL_law_417 : decode cL_law 417 = .ok (.iadd, 1) := by decide +kernel
theorem dL_law_418 : decode cL_law 418 = .ok (.iaload, 1) := by decide +kernel
theorem dL_law_419 : decode cL_law 419 = .ok (.ifCond .eq 7, 3) := by decide +kernel
theorem dL_law_422 : decode cL_law 422 = .ok (.iconst 1, 1) := by decide +kernel
theorem dL_law_423 : decode cL_law 423 = .ok (.goto 4, 3) := by decide +kernel
theorem dL_law_426 : decode cL_law 426 = .ok (.iconst 0, 1) := by decide +kernel
theorem dL_law_427 : decode cL_law 427 = .ok (.invokevirtual 53, 3) := by decide +kernel
theorem dL_law_430 : decode cL_law 430 = .ok (.if_icmp .eq 441, 3) := by decide +kernel
theorem dL_law_433 : decode cL_law 433 = .ok (.iconst 0, 1) := by decide +kernel
theorem dL_law_434 : decode cL_law 434 = .ok (.ireturn, 1) := by decide +kernel
theorem dL_law_435 : decode cL_law 435 = .ok (.aload_n 1, 1) := by decide +kernel
theorem dL_law_436 : decode cL_law 436 = .ok (.aload_n 0, 1) := by decide +kernel
theorem dL_law_437 : decode cL_law 437 = .ok (.iload_n 3, 1) := by decide +kernel
theorem dL_law_438 : decode cL_law 438 = .ok (.iconst 1, 1) := by decide +kernel
theorem dL_law_439 : decode cL_law 439 = .ok (.iadd, 1) := by decide +kernel
theorem dL_law_440 : decode cL_law 440 = .ok (.iaload, 1) := by decide +kernel
theorem dL_law_441 : decode cL_law 441 = .ok (.invokevirtual 54, 3) := by decide +kernel
theorem dL_law_444 : decode cL_law 444 = .ok (.aload_n 2, 1) := by decide +kernel
theorem dL_law_445 : decode cL_law 445 = .ok (.aload_n 0, 1) := by decide +kernel
theorem dL_law_446 : decode cL_law 446 = .ok (.iload_n 3, 1) := by decide +kernel
theorem dL_law_447 : decode cL_law 447 = .ok (.iconst 1, 1) := by decide +kernel
theorem dL_law_448 : decode cL_law 448 = .ok (.iadd, 1) := by decide +kernel
theorem dL_law_449 : decode cL_law 449 = .ok (.iaload, 1) := by decide +kernel
theorem dL_law_450 : decode cL_law 450 = .ok (.invokevirtual 57, 3) := by decide +kernel
theorem dL_law_453 : decode cL_law 453 = .ok (.if_icmp .eq 418, 3) := by decide +kernel
theorem dL_law_456 : decode cL_law 456 = .ok (.iconst 0, 1) := by decide +kernel
theorem dL_law_457 : decode cL_law 457 = .ok (.ireturn, 1) := by decide +kernel
theorem dL_law_458 : decode cL_law 458 = .ok (.aload_n 1, 1) := by decide +kernel
theorem dL_law_459 : decode cL_law 459 = .ok (.aload_n 0, 1) := by decide +kernel
theorem dL_law_460 : decode cL_law 460 = .ok (.iload_n 3, 1) := by decide +kernel
theorem dL_law_461 : decode cL_law 461 = .ok (.iconst 1, 1) := by decide +kernel
theorem dL_law_462 : decode cL_law 462 = .ok (.iadd, 1) := by decide +kernel
theorem dL_law_463 : decode cL_law 463 = .ok (.iaload, 1) := by decide +kernel
theorem dL_law_464 : decode cL_law 464 = .ok (.i2c, 1) := by decide +kernel
theorem dL_law_465 : decode cL_law 465 = .ok (.invokevirtual 58, 3) := by decide +kernel
theorem dL_law_468 : decode cL_law 468 = .ok (.aload_n 2, 1) := by decide +kernel
theorem dL_law_469 : decode cL_law 469 = .ok (.aload_n 0, 1) := by decide +kernel
theorem dL_law_470 : decode cL_law 470 = .ok (.iload_n 3, 1) := by decide +kernel
theorem dL_law_471 : decode cL_law 471 = .ok (.iconst 1, 1) := by decide +kernel
theorem dL_law_472 : decode cL_law 472 = .ok (.iadd, 1) := by decide +kernel
theorem dL_law_473 : decode cL_law 473 = .ok (.iaload, 1) := by decide +kernel
theorem dL_law_474 : decode cL_law 474 = .ok (.i2c, 1) := by decide +kernel
theorem dL_law_475 : decode cL_law 475 = .ok (.invokevirtual 62, 3) := by decide +kernel
theorem dL_law_478 : decode cL_law 478 = .ok (.if_icmp .eq 393, 3) := by decide +kernel
theorem dL_law_481 : decode cL_law 481 = .ok (.iconst 0, 1) := by decide +kernel
theorem dL_law_482 : decode cL_law 482 = .ok (.ireturn, 1) := by decide +kernel
theorem dL_law_483 : decode cL_law 483 = .ok (.aload_n 1, 1) := by decide +kernel
theorem dL_law_484 : decode cL_law 484 = .ok (.invokevirtual 63, 3) := by decide +kernel
theorem dL_law_487 : decode cL_law 487 = .ok (.aload_n 2, 1) := by decide +kernel
theorem dL_law_488 : decode cL_law 488 = .ok (.invokevirtual 66, 3) := by decide +kernel
theorem dL_law_491 : decode cL_law 491 = .ok (.if_icmp .eq 380, 3) := by decide +kernel
theorem dL_law_494 : decode cL_law 494 = .ok (.iconst 0, 1) := by decide +kernel
theorem dL_law_495 : decode cL_law 495 = .ok (.ireturn, 1) := by decide +kernel
theorem dL_law_496 : decode cL_law 496 = .ok (.aload_n 1, 1) := by decide +kernel
theorem dL_law_497 : decode cL_law 497 = .ok (.aload_n 0, 1) := by decide +kernel
theorem dL_law_498 : decode cL_law 498 = .ok (.iload_n 3, 1) := by decide +kernel
theorem dL_law_499 : decode cL_law 499 = .ok (.iconst 1, 1) := by decide +kernel
theorem dL_law_500 : decode cL_law 500 = .ok (.iadd, 1) := by decide +kernel
theorem dL_law_501 : decode cL_law 501 = .ok (.iaload, 1) := by decide +kernel
theorem dL_law_502 : decode cL_law 502 = .ok (.invokevirtual 67, 3) := by decide +kernel
theorem dL_law_505 : decode cL_law 505 = .ok (.aload_n 2, 1) := by decide +kernel
theorem dL_law_506 : decode cL_law 506 = .ok (.aload_n 0, 1) := by decide +kernel
theorem dL_law_507 : decode cL_law 507 = .ok (.iload_n 3, 1) := by decide +kernel
theorem dL_law_508 : decode cL_law 508 = .ok (.iconst 1, 1) := by decide +kernel
theorem dL_law_509 : decode cL_law 509 = .ok (.iadd, 1) := by decide +kernel
theorem dL_law_510 : decode cL_law 510 = .ok (.iaload, 1) := by decide +kernel
theorem dL_law_511 : decode cL_law 511 = .ok (.invokevirtual 70, 3) := by decide +kernel
theorem dL_law_514 : decode cL_law 514 = .ok (.if_icmp .eq 357, 3) := by decide +kernel
theorem dL_law_517 : decode cL_law 517 = .ok (.iconst 0, 1) := by decide +kernel
theorem dL_law_518 : decode cL_law 518 = .ok (.ireturn, 1) := by decide +kernel
theorem dL_law_519 : decode cL_law 519 = .ok (.aload_n 1, 1) := by decide +kernel
theorem dL_law_520 : decode cL_law 520 = .ok (.invokevirtual 71, 3) := by decide +kernel
theorem dL_law_523 : decode cL_law 523 = .ok (.aload_n 2, 1) := by decide +kernel
theorem dL_law_524 : decode cL_law 524 = .ok (.invokevirtual 74, 3) := by decide +kernel
theorem dL_law_527 : decode cL_law 527 = .ok (.if_icmp .eq 344, 3) := by decide +kernel
theorem dL_law_530 : decode cL_law 530 = .ok (.iconst 0, 1) := by decide +kernel
theorem dL_law_531 : decode cL_law 531 = .ok (.ireturn, 1) := by decide +kernel
theorem dL_law_532 : decode cL_law 532 = .ok (.aload_n 1, 1) := by decide +kernel
theorem dL_law_533 : decode cL_law 533 = .ok (.invokevirtual 75, 3) := by decide +kernel
theorem dL_law_536 : decode cL_law 536 = .ok (.aload_n 2, 1) := by decide +kernel
theorem dL_law_537 : decode cL_law 537 = .ok (.invokevirtual 78, 3) := by decide +kernel
theorem dL_law_540 : decode cL_law 540 = .ok (.if_icmp .eq 331, 3) := by decide +kernel
theorem dL_law_543 : decode cL_law 543 = .ok (.iconst 0, 1) := by decide +kernel
theorem dL_law_544 : decode cL_law 544 = .ok (.ireturn, 1) := by decide +kernel
theorem dL_law_545 : decode cL_law 545 = .ok (.aload_n 1, 1) := by decide +kernel
theorem dL_law_546 : decode cL_law 546 = .ok (.invokevirtual 79, 3) := by decide +kernel
theorem dL_law_549 : decode cL_law 549 = .ok (.aload_n 2, 1) := by decide +kernel
theorem dL_law_550 : decode cL_law 550 = .ok (.invokevirtual 82, 3) := by decide +kernel
theorem dL_law_553 : decode cL_law 553 = .ok (.if_icmp .eq 318, 3) := by decide +kernel
theorem dL_law_556 : decode cL_law 556 = .ok (.iconst 0, 1) := by decide +kernel
theorem dL_law_557 : decode cL_law 557 = .ok (.ireturn, 1) := by decide +kernel
theorem dL_law_558 : decode cL_law 558 = .ok (.aload_n 1, 1) := by decide +kernel
theorem dL_law_559 : decode cL_law 559 = .ok (.aload_n 0, 1) := by decide +kernel
theorem dL_law_560 : decode cL_law 560 = .ok (.iload_n 3, 1) := by decide +kernel
theorem dL_law_561 : decode cL_law 561 = .ok (.iconst 1, 1) := by decide +kernel
theorem dL_law_562 : decode cL_law 562 = .ok (.iadd, 1) := by decide +kernel
theorem dL_law_563 : decode cL_law 563 = .ok (.iaload, 1) := by decide +kernel
theorem dL_law_564 : decode cL_law 564 = .ok (.aload_n 0, 1) := by decide +kernel
theorem dL_law_565 : decode cL_law 565 = .ok (.iload_n 3, 1) := by decide +kernel
theorem dL_law_566 : decode cL_law 566 = .ok (.iconst 2, 1) := by decide +kernel
theorem dL_law_567 : decode cL_law 567 = .ok (.iadd, 1) := by decide +kernel
theorem dL_law_568 : decode cL_law 568 = .ok (.iaload, 1) := by decide +kernel
theorem dL_law_569 : decode cL_law 569 = .ok (.invokevirtual 83, 3) := by decide +kernel
theorem dL_law_572 : decode cL_law 572 = .ok (.aload_n 2, 1) := by decide +kernel
theorem dL_law_573 : decode cL_law 573 = .ok (.aload_n 0, 1) := by decide +kernel
theorem dL_law_574 : decode cL_law 574 = .ok (.iload_n 3, 1) := by decide +kernel
theorem dL_law_575 : decode cL_law 575 = .ok (.iconst 1, 1) := by decide +kernel
theorem dL_law_576 : decode cL_law 576 = .ok (.iadd, 1) := by decide +kernel
theorem dL_law_577 : decode cL_law 577 = .ok (.iaload, 1) := by decide +kernel
theorem dL_law_578 : decode cL_law 578 = .ok (.aload_n 0, 1) := by decide +kernel
theorem dL_law_579 : decode cL_law 579 = .ok (.iload_n 3, 1) := by decide +kernel
theorem dL_law_580 : decode cL_law 580 = .ok (.iconst 2, 1) := by decide +kernel
theorem dL_law_581 : decode cL_law 581 = .ok (.iadd, 1) := by decide +kernel
theorem dL_law_582 : decode cL_law 582 = .ok (.iaload, 1) := by decide +kernel
theorem dL_law_583 : decode cL_law 583 = .ok (.invokevirtual 86, 3) := by decide +kernel
theorem dL_law_586 : decode cL_law 586 = .ok (.if_icmp .eq 285, 3) := by decide +kernel
theorem dL_law_589 : decode cL_law 589 = .ok (.iconst 0, 1) := by decide +kernel
theorem dL_law_590 : decode cL_law 590 = .ok (.ireturn, 1) := by decide +kernel
theorem dL_law_591 : decode cL_law 591 = .ok (.aload_n 1, 1) := by decide +kernel
theorem dL_law_592 : decode cL_law 592 = .ok (.aload_n 0, 1) := by decide +kernel
theorem dL_law_593 : decode cL_law 593 = .ok (.iload_n 3, 1) := by decide +kernel
theorem dL_law_594 : decode cL_law 594 = .ok (.iconst 1, 1) := by decide +kernel
theorem dL_law_595 : decode cL_law 595 = .ok (.iadd, 1) := by decide +kernel
theorem dL_law_596 : decode cL_law 596 = .ok (.iaload, 1) := by decide +kernel
theorem dL_law_597 : decode cL_law 597 = .ok (.invokevirtual 87, 3) := by decide +kernel
theorem dL_law_600 : decode cL_law 600 = .ok (.aload_n 2, 1) := by decide +kernel
theorem dL_law_601 : decode cL_law 601 = .ok (.aload_n 0, 1) := by decide +kernel
theorem dL_law_602 : decode cL_law 602 = .ok (.iload_n 3, 1) := by decide +kernel
theorem dL_law_603 : decode cL_law 603 = .ok (.iconst 1, 1) := by decide +kernel
theorem dL_law_604 : decode cL_law 604 = .ok (.iadd, 1) := by decide +kernel
theorem dL_law_605 : decode cL_law 605 = .ok (.iaload, 1) := by decide +kernel
theorem dL_law_606 : decode cL_law 606 = .ok (.invokevirtual 90, 3) := by decide +kernel
theorem dL_law_609 : decode cL_law 609 = .ok (.if_icmp .eq 262, 3) := by decide +kernel
theorem dL_law_612 : decode cL_law 612 = .ok (.iconst 0, 1) := by decide +kernel
theorem dL_law_613 : decode cL_law 613 = .ok (.ireturn, 1) := by decide +kernel
theorem dL_law_614 : decode cL_law 614 = .ok (.aload_n 1, 1) := by decide +kernel
theorem dL_law_615 : decode cL_law 615 = .ok (.aload_n 0, 1) := by decide +kernel
theorem dL_law_616 : decode cL_law 616 = .ok (.iload_n 3, 1) := by decide +kernel
theorem dL_law_617 : decode cL_law 617 = .ok (.iconst 1, 1) := by decide +kernel
theorem dL_law_618 : decode cL_law 618 = .ok (.iadd, 1) := by decide +kernel
theorem dL_law_619 : decode cL_law 619 = .ok (.iaload, 1) := by decide +kernel
theorem dL_law_620 : decode cL_law 620 = .ok (.aload_n 0, 1) := by decide +kernel
theorem dL_law_621 : decode cL_law 621 = .ok (.iload_n 3, 1) := by decide +kernel
theorem dL_law_622 : decode cL_law 622 = .ok (.iconst 2, 1) := by decide +kernel
theorem dL_law_623 : decode cL_law 623 = .ok (.iadd, 1) := by decide +kernel
theorem dL_law_624 : decode cL_law 624 = .ok (.iaload, 1) := by decide +kernel
theorem dL_law_625 : decode cL_law 625 = .ok (.invokevirtual 91, 3) := by decide +kernel
theorem dL_law_628 : decode cL_law 628 = .ok (.aload_n 2, 1) := by decide +kernel
theorem dL_law_629 : decode cL_law 629 = .ok (.aload_n 0, 1) := by decide +kernel
theorem dL_law_630 : decode cL_law 630 = .ok (.iload_n 3, 1) := by decide +kernel
theorem dL_law_631 : decode cL_law 631 = .ok (.iconst 1, 1) := by decide +kernel
theorem dL_law_632 : decode cL_law 632 = .ok (.iadd, 1) := by decide +kernel
theorem dL_law_633 : decode cL_law 633 = .ok (.iaload, 1) := by decide +kernel
theorem dL_law_634 : decode cL_law 634 = .ok (.aload_n 0, 1) := by decide +kernel
theorem dL_law_635 : decode cL_law 635 = .ok (.iload_n 3, 1) := by decide +kernel
theorem dL_law_636 : decode cL_law 636 = .ok (.iconst 2, 1) := by decide +kernel
theorem dL_law_637 : decode cL_law 637 = .ok (.iadd, 1) := by decide +kernel
theorem dL_law_638 : decode cL_law 638 = .ok (.iaload, 1) := by decide +kernel
theorem dL_law_639 : decode cL_law 639 = .ok (.invokevirtual 94, 3) := by decide +kernel
theorem dL_law_642 : decode cL_law 642 = .ok (.if_icmp .eq 229, 3) := by decide +kernel
theorem dL_law_645 : decode cL_law 645 = .ok (.iconst 0, 1) := by decide +kernel
theorem dL_law_646 : decode cL_law 646 = .ok (.ireturn, 1) := by decide +kernel
theorem dL_law_647 : decode cL_law 647 = .ok (.aload_n 1, 1) := by decide +kernel
theorem dL_law_648 : decode cL_law 648 = .ok (.aload_n 0, 1) := by decide +kernel
theorem dL_law_649 : decode cL_law 649 = .ok (.iload_n 3, 1) := by decide +kernel
theorem dL_law_650 : decode cL_law 650 = .ok (.iconst 1, 1) := by decide +kernel
theorem dL_law_651 : decode cL_law 651 = .ok (.iadd, 1) := by decide +kernel
theorem dL_law_652 : decode cL_law 652 = .ok (.iaload, 1) := by decide +kernel
theorem dL_law_653 : decode cL_law 653 = .ok (.aload_n 0, 1) := by decide +kernel
theorem dL_law_654 : decode cL_law 654 = .ok (.iload_n 3, 1) := by decide +kernel
theorem dL_law_655 : decode cL_law 655 = .ok (.iconst 2, 1) := by decide +kernel
theorem dL_law_656 : decode cL_law 656 = .ok (.iadd, 1) := by decide +kernel
theorem dL_law_657 : decode cL_law 657 = .ok (.iaload, 1) := by decide +kernel
theorem dL_law_658 : decode cL_law 658 = .ok (.invokevirtual 95, 3) := by decide +kernel
theorem dL_law_661 : decode cL_law 661 = .ok (.aload_n 2, 1) := by decide +kernel
theorem dL_law_662 : decode cL_law 662 = .ok (.aload_n 0, 1) := by decide +kernel
theorem dL_law_663 : decode cL_law 663 = .ok (.iload_n 3, 1) := by decide +kernel
theorem dL_law_664 : decode cL_law 664 = .ok (.iconst 1, 1) := by decide +kernel
theorem dL_law_665 : decode cL_law 665 = .ok (.iadd, 1) := by decide +kernel
theorem dL_law_666 : decode cL_law 666 = .ok (.iaload, 1) := by decide +kernel
theorem dL_law_667 : decode cL_law 667 = .ok (.aload_n 0, 1) := by decide +kernel
theorem dL_law_668 : decode cL_law 668 = .ok (.iload_n 3, 1) := by decide +kernel
theorem dL_law_669 : decode cL_law 669 = .ok (.iconst 2, 1) := by decide +kernel
theorem dL_law_670 : decode cL_law 670 = .ok (.iadd, 1) := by decide +kernel
theorem dL_law_671 : decode cL_law 671 = .ok (.iaload, 1) := by decide +kernel
theorem dL_law_672 : decode cL_law 672 = .ok (.invokevirtual 98, 3) := by decide +kernel
theorem dL_law_675 : decode cL_law 675 = .ok (.if_icmp .eq 196, 3) := by decide +kernel
theorem dL_law_678 : decode cL_law 678 = .ok (.iconst 0, 1) := by decide +kernel
theorem dL_law_679 : decode cL_law 679 = .ok (.ireturn, 1) := by decide +kernel
theorem dL_law_680 : decode cL_law 680 = .ok (.aload_n 1, 1) := by decide +kernel
theorem dL_law_681 : decode cL_law 681 = .ok (.aload_n 0, 1) := by decide +kernel
theorem dL_law_682 : decode cL_law 682 = .ok (.iload_n 3, 1) := by decide +kernel
theorem dL_law_683 : decode cL_law 683 = .ok (.iconst 1, 1) := by decide +kernel
theorem dL_law_684 : decode cL_law 684 = .ok (.iadd, 1) := by decide +kernel
theorem dL_law_685 : decode cL_law 685 = .ok (.iaload, 1) := by decide +kernel
theorem dL_law_686 : decode cL_law 686 = .ok (.aload_n 0, 1) := by decide +kernel
theorem dL_law_687 : decode cL_law 687 = .ok (.iload_n 3, 1) := by decide +kernel
theorem dL_law_688 : decode cL_law 688 = .ok (.iconst 2, 1) := by decide +kernel
theorem dL_law_689 : decode cL_law 689 = .ok (.iadd, 1) := by decide +kernel
theorem dL_law_690 : decode cL_law 690 = .ok (.iaload, 1) := by decide +kernel
theorem dL_law_691 : decode cL_law 691 = .ok (.invokevirtual 99, 3) := by decide +kernel
theorem dL_law_694 : decode cL_law 694 = .ok (.aload_n 2, 1) := by decide +kernel
theorem dL_law_695 : decode cL_law 695 = .ok (.aload_n 0, 1) := by decide +kernel
theorem dL_law_696 : decode cL_law 696 = .ok (.iload_n 3, 1) := by decide +kernel
theorem dL_law_697 : decode cL_law 697 = .ok (.iconst 1, 1) := by decide +kernel
theorem dL_law_698 : decode cL_law 698 = .ok (.iadd, 1) := by decide +kernel
theorem dL_law_699 : decode cL_law 699 = .ok (.iaload, 1) := by decide +kernel
theorem dL_law_700 : decode cL_law 700 = .ok (.aload_n 0, 1) := by decide +kernel
theorem dL_law_701 : decode cL_law 701 = .ok (.iload_n 3, 1) := by decide +kernel
theorem dL_law_702 : decode cL_law 702 = .ok (.iconst 2, 1) := by decide +kernel
theorem dL_law_703 : decode cL_law 703 = .ok (.iadd, 1) := by decide +kernel
theorem dL_law_704 : decode cL_law 704 = .ok (.iaload, 1) := by decide +kernel
theorem dL_law_705 : decode cL_law 705 = .ok (.invokevirtual 102, 3) := by decide +kernel
theorem dL_law_708 : decode cL_law 708 = .ok (.if_icmp .eq 163, 3) := by decide +kernel
theorem dL_law_711 : decode cL_law 711 = .ok (.iconst 0, 1) := by decide +kernel
theorem dL_law_712 : decode cL_law 712 = .ok (.ireturn, 1) := by decide +kernel
theorem dL_law_713 : decode cL_law 713 = .ok (.aload_n 1, 1) := by decide +kernel
theorem dL_law_714 : decode cL_law 714 = .ok (.aload_n 0, 1) := by decide +kernel
theorem dL_law_715 : decode cL_law 715 = .ok (.iload_n 3, 1) := by decide +kernel
theorem dL_law_716 : decode cL_law 716 = .ok (.iconst 1, 1) := by decide +kernel
theorem dL_law_717 : decode cL_law 717 = .ok (.iadd, 1) := by decide +kernel
theorem dL_law_718 : decode cL_law 718 = .ok (.iaload, 1) := by decide +kernel
theorem dL_law_719 : decode cL_law 719 = .ok (.aload_n 0, 1) := by decide +kernel
theorem dL_law_720 : decode cL_law 720 = .ok (.iload_n 3, 1) := by decide +kernel
theorem dL_law_721 : decode cL_law 721 = .ok (.iconst 2, 1) := by decide +kernel
theorem dL_law_722 : decode cL_law 722 = .ok (.iadd, 1) := by decide +kernel
theorem dL_law_723 : decode cL_law 723 = .ok (.iaload, 1) := by decide +kernel
theorem dL_law_724 : decode cL_law 724 = .ok (.invokevirtual 103, 3) := by decide +kernel
theorem dL_law_727 : decode cL_law 727 = .ok (.aload_n 2, 1) := by decide +kernel
theorem dL_law_728 : decode cL_law 728 = .ok (.aload_n 0, 1) := by decide +kernel
theorem dL_law_729 : decode cL_law 729 = .ok (.iload_n 3, 1) := by decide +kernel
theorem dL_law_730 : decode cL_law 730 = .ok (.iconst 1, 1) := by decide +kernel
theorem dL_law_731 : decode cL_law 731 = .ok (.iadd, 1) := by decide +kernel
theorem dL_law_732 : decode cL_law 732 = .ok (.iaload, 1) := by decide +kernel
theorem dL_law_733 : decode cL_law 733 = .ok (.aload_n 0, 1) := by decide +kernel
theorem dL_law_734 : decode cL_law 734 = .ok (.iload_n 3, 1) := by decide +kernel
theorem dL_law_735 : decode cL_law 735 = .ok (.iconst 2, 1) := by decide +kernel
theorem dL_law_736 : decode cL_law 736 = .ok (.iadd, 1) := by decide +kernel
theorem dL_law_737 : decode cL_law 737 = .ok (.iaload, 1) := by decide +kernel
theorem dL_law_738 : decode cL_law 738 = .ok (.invokevirtual 106, 3) := by decide +kernel
theorem dL_law_741 : decode cL_law 741 = .ok (.if_icmp .eq 130, 3) := by decide +kernel
theorem dL_law_744 : decode cL_law 744 = .ok (.iconst 0, 1) := by decide +kernel
theorem dL_law_745 : decode cL_law 745 = .ok (.ireturn, 1) := by decide +kernel
theorem dL_law_746 : decode cL_law 746 = .ok (.aload_n 1, 1) := by decide +kernel
theorem dL_law_747 : decode cL_law 747 = .ok (.aload_n 0, 1) := by decide +kernel
theorem dL_law_748 : decode cL_law 748 = .ok (.iload_n 3, 1) := by decide +kernel
theorem dL_law_749 : decode cL_law 749 = .ok (.iconst 1, 1) := by decide +kernel
theorem dL_law_750 : decode cL_law 750 = .ok (.iadd, 1) := by decide +kernel
theorem dL_law_751 : decode cL_law 751 = .ok (.iaload, 1) := by decide +kernel
theorem dL_law_752 : decode cL_law 752 = .ok (.aload_n 0, 1) := by decide +kernel
theorem dL_law_753 : decode cL_law 753 = .ok (.iload_n 3, 1) := by decide +kernel
theorem dL_law_754 : decode cL_law 754 = .ok (.iconst 2, 1) := by decide +kernel
theorem dL_law_755 : decode cL_law 755 = .ok (.iadd, 1) := by decide +kernel
theorem dL_law_756 : decode cL_law 756 = .ok (.iaload, 1) := by decide +kernel
theorem dL_law_757 : decode cL_law 757 = .ok (.invokevirtual 107, 3) := by decide +kernel
theorem dL_law_760 : decode cL_law 760 = .ok (.aload_n 2, 1) := by decide +kernel
theorem dL_law_761 : decode cL_law 761 = .ok (.aload_n 0, 1) := by decide +kernel
theorem dL_law_762 : decode cL_law 762 = .ok (.iload_n 3, 1) := by decide +kernel
theorem dL_law_763 : decode cL_law 763 = .ok (.iconst 1, 1) := by decide +kernel
theorem dL_law_764 : decode cL_law 764 = .ok (.iadd, 1) := by decide +kernel
theorem dL_law_765 : decode cL_law 765 = .ok (.iaload, 1) := by decide +kernel
theorem dL_law_766 : decode cL_law 766 = .ok (.aload_n 0, 1) := by decide +kernel
theorem dL_law_767 : decode cL_law 767 = .ok (.iload_n 3, 1) := by decide +kernel
theorem dL_law_768 : decode cL_law 768 = .ok (.iconst 2, 1) := by decide +kernel
theorem dL_law_769 : decode cL_law 769 = .ok (.iadd, 1) := by decide +kernel
theorem dL_law_770 : decode cL_law 770 = .ok (.iaload, 1) := by decide +kernel
theorem dL_law_771 : decode cL_law 771 = .ok (.invokevirtual 110, 3) := by decide +kernel
theorem dL_law_774 : decode cL_law 774 = .ok (.if_icmp .eq 97, 3) := by decide +kernel
theorem dL_law_777 : decode cL_law 777 = .ok (.iconst 0, 1) := by decide +kernel
theorem dL_law_778 : decode cL_law 778 = .ok (.ireturn, 1) := by decide +kernel
theorem dL_law_779 : decode cL_law 779 = .ok (.aload_n 1, 1) := by decide +kernel
theorem dL_law_780 : decode cL_law 780 = .ok (.aload_n 0, 1) := by decide +kernel
theorem dL_law_781 : decode cL_law 781 = .ok (.iload_n 3, 1) := by decide +kernel
theorem dL_law_782 : decode cL_law 782 = .ok (.iconst 1, 1) := by decide +kernel
theorem dL_law_783 : decode cL_law 783 = .ok (.iadd, 1) := by decide +kernel
theorem dL_law_784 : decode cL_law 784 = .ok (.iaload, 1) := by decide +kernel
theorem dL_law_785 : decode cL_law 785 = .ok (.invokevirtual 111, 3) := by decide +kernel
theorem dL_law_788 : decode cL_law 788 = .ok (.aload_n 2, 1) := by decide +kernel
theorem dL_law_789 : decode cL_law 789 = .ok (.aload_n 0, 1) := by decide +kernel
theorem dL_law_790 : decode cL_law 790 = .ok (.iload_n 3, 1) := by decide +kernel
theorem dL_law_791 : decode cL_law 791 = .ok (.iconst 1, 1) := by decide +kernel
theorem dL_law_792 : decode cL_law 792 = .ok (.iadd, 1) := by decide +kernel
theorem dL_law_793 : decode cL_law 793 = .ok (.iaload, 1) := by decide +kernel
theorem dL_law_794 : decode cL_law 794 = .ok (.invokevirtual 114, 3) := by decide +kernel
theorem dL_law_797 : decode cL_law 797 = .ok (.if_icmp .eq 74, 3) := by decide +kernel
theorem dL_law_800 : decode cL_law 800 = .ok (.iconst 0, 1) := by decide +kernel
theorem dL_law_801 : decode cL_law 801 = .ok (.ireturn, 1) := by decide +kernel
theorem dL_law_802 : decode cL_law 802 = .ok (.aload_n 1, 1) := by decide +kernel
theorem dL_law_803 : decode cL_law 803 = .ok (.invokevirtual 115, 3) := by decide +kernel
theorem dL_law_806 : decode cL_law 806 = .ok (.aload_n 2, 1) := by decide +kernel
theorem dL_law_807 : decode cL_law 807 = .ok (.invokevirtual 118, 3) := by decide +kernel
theorem dL_law_810 : decode cL_law 810 = .ok (.if_icmp .eq 61, 3) := by decide +kernel
theorem dL_law_813 : decode cL_law 813 = .ok (.iconst 0, 1) := by decide +kernel
theorem dL_law_814 : decode cL_law 814 = .ok (.ireturn, 1) := by decide +kernel
theorem dL_law_815 : decode cL_law 815 = .ok (.aload_n 1, 1) := by decide +kernel
theorem dL_law_816 : decode cL_law 816 = .ok (.aload_n 0, 1) := by decide +kernel
theorem dL_law_817 : decode cL_law 817 = .ok (.iload_n 3, 1) := by decide +kernel
theorem dL_law_818 : decode cL_law 818 = .ok (.iconst 1, 1) := by decide +kernel
theorem dL_law_819 : decode cL_law 819 = .ok (.iadd, 1) := by decide +kernel
theorem dL_law_820 : decode cL_law 820 = .ok (.iaload, 1) := by decide +kernel
theorem dL_law_821 : decode cL_law 821 = .ok (.aload_n 0, 1) := by decide +kernel
theorem dL_law_822 : decode cL_law 822 = .ok (.iload_n 3, 1) := by decide +kernel
theorem dL_law_823 : decode cL_law 823 = .ok (.iconst 2, 1) := by decide +kernel
theorem dL_law_824 : decode cL_law 824 = .ok (.iadd, 1) := by decide +kernel
theorem dL_law_825 : decode cL_law 825 = .ok (.iaload, 1) := by decide +kernel
theorem dL_law_826 : decode cL_law 826 = .ok (.invokevirtual 119, 3) := by decide +kernel
theorem dL_law_829 : decode cL_law 829 = .ok (.aload_n 2, 1) := by decide +kernel
theorem dL_law_830 : decode cL_law 830 = .ok (.aload_n 0, 1) := by decide +kernel
theorem dL_law_831 : decode cL_law 831 = .ok (.iload_n 3, 1) := by decide +kernel
theorem dL_law_832 : decode cL_law 832 = .ok (.iconst 1, 1) := by decide +kernel
theorem dL_law_833 : decode cL_law 833 = .ok (.iadd, 1) := by decide +kernel
theorem dL_law_834 : decode cL_law 834 = .ok (.iaload, 1) := by decide +kernel
theorem dL_law_835 : decode cL_law 835 = .ok (.aload_n 0, 1) := by decide +kernel
theorem dL_law_836 : decode cL_law 836 = .ok (.iload_n 3, 1) := by decide +kernel
theorem dL_law_837 : decode cL_law 837 = .ok (.iconst 2, 1) := by decide +kernel
theorem dL_law_838 : decode cL_law 838 = .ok (.iadd, 1) := by decide +kernel
theorem dL_law_839 : decode cL_law 839 = .ok (.iaload, 1) := by decide +kernel
theorem dL_law_840 : decode cL_law 840 = .ok (.invokevirtual 122, 3) := by decide +kernel
theorem dL_law_843 : decode cL_law 843 = .ok (.if_icmp .eq 28, 3) := by decide +kernel
theorem dL_law_846 : decode cL_law 846 = .ok (.iconst 0, 1) := by decide +kernel
theorem dL_law_847 : decode cL_law 847 = .ok (.ireturn, 1) := by decide +kernel
theorem dL_law_848 : decode cL_law 848 = .ok (.aload_n 1, 1) := by decide +kernel
theorem dL_law_849 : decode cL_law 849 = .ok (.aload_n 0, 1) := by decide +kernel
end
section
theorem dL_law_850 : decode cL_law 850 = .ok (.iload_n 3, 1) := by decide +kernel
theorem dL_law_851 : decode cL_law 851 = .ok (.iconst 1, 1) := by decide +kernel
theorem dL_law_852 : decode cL_law 852 = .ok (.iadd, 1) := by decide +kernel
theorem dL_law_853 : decode cL_law 853 = .ok (.iaload, 1) := by decide +kernel
theorem dL_law_854 : decode cL_law 854 = .ok (.invokevirtual 123, 3) := by decide +kernel
theorem dL_law_857 : decode cL_law 857 = .ok (.aload_n 2, 1) := by decide +kernel
theorem dL_law_858 : decode cL_law 858 = .ok (.aload_n 0, 1) := by decide +kernel
theorem dL_law_859 : decode cL_law 859 = .ok (.iload_n 3, 1) := by decide +kernel
theorem dL_law_860 : decode cL_law 860 = .ok (.iconst 1, 1) := by decide +kernel
theorem dL_law_861 : decode cL_law 861 = .ok (.iadd, 1) := by decide +kernel
theorem dL_law_862 : decode cL_law 862 = .ok (.iaload, 1) := by decide +kernel
theorem dL_law_863 : decode cL_law 863 = .ok (.invokevirtual 126, 3) := by decide +kernel
theorem dL_law_866 : decode cL_law 866 = .ok (.if_icmp .eq 5, 3) := by decide +kernel
theorem dL_law_869 : decode cL_law 869 = .ok (.iconst 0, 1) := by decide +kernel
theorem dL_law_870 : decode cL_law 870 = .ok (.ireturn, 1) := by decide +kernel
theorem dL_law_871 : decode cL_law 871 = .ok (.iinc 3 4, 3) := by decide +kernel
theorem dL_law_874 : decode cL_law 874 = .ok (.goto (-856), 3) := by decide +kernel
theorem dL_law_877 : decode cL_law 877 = .ok (.iconst 1, 1) := by decide +kernel
theorem dL_law_878 : decode cL_law 878 = .ok (.ireturn, 1) := by decide +kernel
end
section
/-! the context: classes, array classes and nest words; derived rules for calls, fields, arrays and ends -/
abbrev gG : Type := va_G × ClassId × ClassId × ClassId
def gT (G : gG) : List (ClassId × FieldType) := [(G.2.1, .char), (G.2.2.1, .int), (G.2.2.2, .object RX3)]
def gK (G : gG) (U : State) : Prop := va_K G.1 vwCl (gT G) U ∧ (∀ q ∈ nM, va_Nw (.methodLinkNest q.1 q.2.1 q.2.2.1 q.2.2.2) U) ∧ (∀ q ∈ nF, va_Nw (.fieldLinkNest q.1 q.2.1 q.2.2.1 q.2.2.2.1 q.2.2.2.2.1 q.2.2.2.2.2) U) ∧ va_AO RX3 U
theorem gK.warm {G : gG} {s U : State} (hW : s.WarmedH U.vm) (h : gK G s) : gK G U :=
  ⟨va_K.moved hW.alike h.1, fun q hq => va_Nw.warmM hW (h.2.1 q hq), fun q hq => va_Nw.warmF hW (h.2.2.1 q hq), va_AO.moved hW.alike h.2.2.2⟩
theorem gK.call {G : gG} {U : State} {g : JFrame} {mk : MethodId} {a : Array Value} (h : gK G U) : gK G (U.calling g mk a) :=
  ⟨va_K.moved (u := U) (Vm.Alike.refl U.vm) h.1, fun q hq => va_Nw.same (u := U) rfl rfl (h.2.1 q hq), fun q hq => va_Nw.same (u := U) rfl rfl (h.2.2.1 q hq), va_AO.moved (u := U) (Vm.Alike.refl U.vm) h.2.2.2⟩
def gPc (G : gG) (ws : va_W) (av : List Value) : Array Value → State → Prop := fun v U => v = av.toArray ∧ va_P G.1 vwCl ws U.heap ∧ gK G U
theorem gPc_blind {G : gG} {ws : va_W} {av : List Value} : FrameBlind (gPc G ws av) := fun _ _ _ _ q => ⟨q.1, q.2.1, q.2.2.call⟩
def gPw (G : gG) (ws : va_W) (sz : Nat) (av : List Value) : Array Value → State → Prop := fun v U => v = av.toArray ∧ U.heap.size = sz ∧ va_P G.1 vwCl ws U.heap ∧ gK G U ∧ va_D (fun _ => True) ws
theorem gPw_blind {G : gG} {ws : va_W} {sz : Nat} {av : List Value} : FrameBlind (gPw G ws sz av) := fun _ _ _ _ q => ⟨q.1, q.2.1, q.2.2.1, q.2.2.2.1.call, q.2.2.2.2⟩
def gQw (G : gG) (o : Option Int32) (ws : va_W) (A : Nat → Prop) : Array Value → State → Outcome → State → Prop := fun _ st oc t => (oc = .returned (o.map Value.int) ∧ va_P G.1 vwCl ws t.heap ∧ va_D A ws) ∧ va_F A st t
abbrev rmk (f l : Nat) : Room := { frames := f, cells := 0, slots := 0, locals := l }
/-- a method that reads alone: its answer is res -/
def RdM (l : Launch) (G : gG) (y : MethodName) (c : ByteArray) (n : Nat) (rt : FieldType) (rm : Room) (ws : va_W) (av : List Value) (res : Int32) : Prop :=
  Met l y (wq y c n (some rt)) rm (gPc G ws av) (vp_Si (fun x => x = res)) 0 0 (fun _ => False)
/-- a method that writes, and makes nothing -/
def WrM (l : Launch) (G : gG) (y : MethodName) (c : ByteArray) (n : Nat) (r : Option FieldType) (rm : Room) (ws : va_W) (sz : Nat) (av : List Value) (o : Option Int32) (ws' : va_W) : Prop :=
  Met l y (wq y c n r) rm (gPw G ws sz av) (gQw G o ws' (va_A ws sz)) 0 0 (va_A ws sz)
theorem gV {own C : String} {idx : Nat} {y : MethodName} {c : ByteArray} {n : Nat} {r : Option FieldType} {k : Nat} (h : mIn C y c n r k) (hl : Cond.methodLink own idx y ∈ T0) : GoodIn T0 (wsV own idx C y (wq y c n r)) := by
  refine gIn fun w hw => ?_
  unfold wsV at hw
  rcases List.mem_append.mp hw with h1 | h1
  · simp only [List.mem_cons, List.not_mem_nil, or_false] at h1
    rcases h1 with rfl | rfl | rfl | rfl
    · exact hl
    · exact h.2.1
    · exact h.2.2.1
    · exact h.2.2.2.1
  · exact wq_in h.1 w h1
section RD
variable {p : Program} {l : Launch} {e : Env} {R : Room} {s : State} {m : MethodId} {args : Array Value} {below : List Frame} {meth : Method} {c : Code} {H : Heap} {locs : List Loc} {cells slots : Nat} {Q : State → Prop}
variable {cc : ByteArray} {nL pc : Nat} {own : String} {G : gG} {ls : Array Slot} {rest st0 : List Value}
variable {C : String} {y : MethodName} {bytes : ByteArray} {maxL : Nat} {rt : FieldType} {r0 : Option FieldType} {rm : Room} {ws : va_W} {res : Int32} {b : Nat} {As : List Value} {index : Nat}
theorem run_toCall {mc ms : Nat} {g : JFrame} {Qa : State → Outcome → State → Prop} {free : Addr → Prop} (h : va_Run p l e R s m args below meth c H locs cells slots mc ms g rest Qa free) : CallRun p l e R s m args below meth c H locs cells slots mc ms g rest Qa free := by
  intro T hT X
  obtain ⟨v, st₀, t, T', L, h0, X', hL, e1, -, hq, st⟩ := h T hT X
  exact ⟨v, st₀, t, T', L, h0, X', hL, e1, hq, st⟩
theorem rd_end {a : Array Value} (hr : CallRun p l e R s m args below meth c H locs cells slots 0 0 (F0 m pc ls st0) rest (vp_Si (fun x => x = res) a) (fun _ => False))
    (kk : W p l e R s m args below meth c H locs cells slots Q (F0 m (pc + 3) ls (.int res :: rest))) : W p l e R s m args below meth c H locs cells slots Q (F0 m pc ls st0) :=
  vp_callSi hr (fun r h => by rw [h]; exact kk)
theorem room_of {st : List Value} (h : (st.map fun v => v.category).sum ≤ 8) : 2 * (F0 m pc ls st0).monitorRoom + (st.map fun v => v.category).sum ≤ 8 := lv_room h
/-- a call of an object's method that reads -/
theorem rdV (S : CallFix p m c cc nL s args T0 own) (hK : gK G s) (hM : RdM l G y bytes maxL rt rm ws (.ref b :: As) res) (hi : mIn C y bytes maxL (some rt) As.length) (hln : Cond.methodLink own index y ∈ T0)
    (hz : rm.cells = 0 ∧ rm.slots = 0 ∧ rm.frames + 1 ≤ R.frames ∧ 8 + (maxL + 11) + rm.locals ≤ R.locals) (hP : va_P G.1 vwCl ws H) {ci : Nat} {fs : List Value} {q : vw_C} (hc : vwCl[ci]? = some q) (hqC : q.1 = C) (he : ws[0]? = some (b, .inr (ci, fs)))
    (hst : st0 = As.reverse ++ .ref b :: rest) (hsz : ls.size = nL) (hrest : (rest.map fun v => v.category).sum ≤ 8) (hf : cells ≤ R.cells ∧ slots ≤ R.slots) (hdg : decode cc pc = .ok (.invokevirtual index, 3))
    (kk : W p l e R s m args below meth c H locs cells slots Q (F0 m (pc + 3) ls (.int res :: rest))) : W p l e R s m args below meth c H locs cells slots Q (F0 m pc ls st0) := by
  subst hqC
  refine rd_end (run_toCall (va_runV S hM (cwV As.length S.2.2.2.2 (gV hi hln) rfl hz.1 hz.2.1 hi.2.2.2.2 hz.2.2) ⟨gPc_blind, va_recv hK.1 hP hc he, fun U hU hW => ⟨rfl, by rw [hU]; exact hP, hK.warm hW⟩⟩ rfl rfl hsz hst (lv_room hrest) hdg hf)) kk
/-- a call of a static method that reads, of the same class or a public one -/
theorem rdS (S : CallFix p m c cc nL s args T0 own) (hK : gK G s) (hM : RdM l G y bytes maxL rt rm ws As res) (hi : mSt y bytes maxL (some rt) As.length) (hln : Cond.methodLink own index y ∈ T0)
    (hz : rm.cells = 0 ∧ rm.slots = 0 ∧ rm.frames + 1 ≤ R.frames ∧ 8 + (maxL + 11) + rm.locals ≤ R.locals) (hP : va_P G.1 vwCl ws H)
    (hst : st0 = As.reverse ++ rest) (hsz : ls.size = nL) (hrest : (rest.map fun v => v.category).sum ≤ 8) (hf : cells ≤ R.cells ∧ slots ≤ R.slots) (hdg : decode cc pc = .ok (.invokestatic index, 3))
    (kk : W p l e R s m args below meth c H locs cells slots Q (F0 m (pc + 3) ls (.int res :: rest))) : W p l e R s m args below meth c H locs cells slots Q (F0 m pc ls st0) := by
  refine rd_end (run_toCall (va_runS S hM ⟨callB_of As.length S.2.2.2.2 (gIn (wq_in hi.1)) rfl hz.1 hz.2.1 (S.2.2.2.2 _ hi.2.2.1) (S.2.2.2.2 _ hln) hi.2.2.2 hz.2.2, S.2.2.2.2 _ hi.2.1⟩ ⟨gPc_blind, fun U hU hW => ⟨rfl, by rw [hU]; exact hP, hK.warm hW⟩⟩ rfl rfl hsz hst (lv_room hrest) hdg hf)) kk
/-- a call of a private static method of a nest mate, that reads -/
theorem rdN {host : String} (S : CallFix p m c cc nL s args T0 own) (hK : gK G s) (hM : RdM l G y bytes maxL rt rm ws As res) (hi : mSt y bytes maxL (some rt) As.length) (k : Nat) (hln : nM[k]? = some (own, index, y, host))
    (hz : rm.cells = 0 ∧ rm.slots = 0 ∧ rm.frames + 1 ≤ R.frames ∧ 8 + (maxL + 11) + rm.locals ≤ R.locals) (hP : va_P G.1 vwCl ws H)
    (hst : st0 = As.reverse ++ rest) (hsz : ls.size = nL) (hrest : (rest.map fun v => v.category).sum ≤ 8) (hf : cells ≤ R.cells ∧ slots ≤ R.slots) (hdg : decode cc pc = .ok (.invokestatic index, 3))
    (kk : W p l e R s m args below meth c H locs cells slots Q (F0 m (pc + 3) ls (.int res :: rest))) : W p l e R s m args below meth c H locs cells slots Q (F0 m pc ls st0) := by
  refine rd_end (run_toCall (va_runSN S hM ⟨va_cnB As.length S.2.2.2.2 (gIn (wq_in hi.1)) rfl hz.1 hz.2.1 (hK.2.1 _ (List.mem_of_getElem? hln)) (S.2.2.2.2 _ hi.2.2.1) hi.2.2.2 hz.2.2, S.2.2.2.2 _ hi.2.1, trivial⟩ ⟨gPc_blind, fun U hU hW => ⟨rfl, by rw [hU]; exact hP, hK.warm hW⟩⟩ rfl rfl hsz hst (lv_room hrest) hdg hf)) kk
theorem fm_of_map {α : Type} {f : Nat → Option α} : ∀ {is : List Nat} {w : List α}, is.map f = w.map some → is.filterMap f = w
  | [], [], _ => rfl
  | [], _ :: _, h => by cases h
  | _ :: _, [], h => by cases h
  | i :: is, x :: w, h => by
    simp only [List.map_cons, List.cons.injEq] at h
    rw [List.filterMap_cons, h.1, fm_of_map h.2]
/-- behind a writing call: the world in its old order -/
theorem wr_end {A0 : Nat → Prop} {H0 : Heap} {ws0 wr ws' ws1 : va_W} {o : Option Int32} {a : Array Value} (hr : va_Run p l e R s m args below meth c H locs cells slots 0 0 (F0 m pc ls st0) rest (gQw G o ws' (va_A ws H.size) a) (va_A ws H.size))
    (hP : va_P G.1 vwCl ws0 H) (hD : va_D A0 ws0) (hS : va_S A0 H0 H locs) (hA : ∀ q, H0.size ≤ q → A0 q) (isC isR pm : List Nat) (hC : isC.map (fun i => ws0[i]?) = ws.map some) (hR : isR.map (fun i => ws0[i]?) = wr.map some) (hn : va_nd isR = true) (hdis : ∀ i ∈ isR, i ∉ isC)
    (hpm : pm.map (fun i => (wr ++ ws')[i]?) = ws1.map some) (hpn : va_nd pm = true)
    (kk : ∀ (H1 : Heap) (locs1 : List Loc), va_P G.1 vwCl ws1 H1 → va_D A0 ws1 → va_S A0 H0 H1 locs1 → W p l e R s m args below meth c H1 locs1 cells slots Q (F0 m (pc + 3) ls ((o.map Value.int).toList ++ rest))) : W p l e R s m args below meth c H locs cells slots Q (F0 m pc ls st0) := by
  have hF : ∀ q, va_A ws H.size q → A0 q := va_free hD hS hA isC hC
  intro T hT X
  obtain ⟨v, st₀, t, T', L, h0, X', hL, e1, e2, ⟨⟨hv, hP1, hD1⟩, hz, hk⟩, st⟩ := hr T hT X
  cases hv
  rw [h0] at hz hk
  rw [← e1] at hz hk hP1
  obtain ⟨hPj, hDj⟩ := va_join hP hD isC isR hC hR hn hdis hk hF hP1 hD1
  obtain ⟨t2, a1, b1⟩ := kk T'.heap (locs ++ L) (hPj.sub pm (fm_of_map hpm)) (hDj.sub pm hpn hpm)
    ⟨Nat.le_trans hS.1 hz, fun q h1 h2 => by rw [hk q (Nat.lt_of_lt_of_le h1 hS.1) (fun z => h2 (hF q z))]; exact hS.2.1 q h1 h2, fun q hq => by
      rcases List.mem_append.mp hq with h | h
      · exact hS.2.2 q h
      · exact hF _ (hL q h)⟩ T' rfl X'
  exact ⟨t2, st t2 a1, b1⟩
/-- a call of an object's method that writes -/
theorem wrV {A0 : Nat → Prop} {H0 : Heap} {ws0 wr ws' ws1 : va_W} {o : Option Int32} (S : CallFix p m c cc nL s args T0 own) (hK : gK G s) (hM : WrM l G y bytes maxL r0 rm ws H.size (.ref b :: As) o ws') (hi : mIn C y bytes maxL r0 As.length) (hln : Cond.methodLink own index y ∈ T0)
    (hz : rm.cells = 0 ∧ rm.slots = 0 ∧ rm.frames + 1 ≤ R.frames ∧ 8 + (maxL + 11) + rm.locals ≤ R.locals)
    (hP : va_P G.1 vwCl ws0 H) (hD : va_D A0 ws0) (hS : va_S A0 H0 H locs) (hA : ∀ q, H0.size ≤ q → A0 q) (isC isR pm : List Nat) (hC : isC.map (fun i => ws0[i]?) = ws.map some) (hR : isR.map (fun i => ws0[i]?) = wr.map some) (hn : va_nd isR = true) (hdis : ∀ i ∈ isR, i ∉ isC) (hcn : va_nd isC = true)
    (hpm : pm.map (fun i => (wr ++ ws')[i]?) = ws1.map some) (hpn : va_nd pm = true)
    {ci : Nat} {fs : List Value} {q : vw_C} (hc : vwCl[ci]? = some q) (hqC : q.1 = C) (he : ws[0]? = some (b, .inr (ci, fs)))
    (hst : st0 = As.reverse ++ .ref b :: rest) (hsz : ls.size = nL) (hrest : (rest.map fun v => v.category).sum ≤ 8) (hf : cells ≤ R.cells ∧ slots ≤ R.slots) (hdg : decode cc pc = .ok (.invokevirtual index, 3))
    (kk : ∀ (H1 : Heap) (locs1 : List Loc), va_P G.1 vwCl ws1 H1 → va_D A0 ws1 → va_S A0 H0 H1 locs1 → W p l e R s m args below meth c H1 locs1 cells slots Q (F0 m (pc + 3) ls ((o.map Value.int).toList ++ rest))) : W p l e R s m args below meth c H locs cells slots Q (F0 m pc ls st0) := by
  subst hqC
  have hPc : va_P G.1 vwCl ws H := hP.sub isC (fm_of_map hC)
  have hDc : va_D (fun _ => True) ws := (hD.sub isC hcn hC).weaken (fun _ _ _ _ => trivial)
  exact wr_end (va_runV S hM (cwV As.length S.2.2.2.2 (gV hi hln) rfl hz.1 hz.2.1 hi.2.2.2.2 hz.2.2) ⟨gPw_blind, va_recv hK.1 hPc hc he, fun U hU hW => ⟨rfl, by rw [hU], by rw [hU]; exact hPc, hK.warm hW, hDc⟩⟩ rfl rfl hsz hst (lv_room hrest) hdg hf) hP hD hS hA isC isR pm hC hR hn hdis hpm hpn kk
/-- a field is read -/
theorem gf (S : CallFix p m c cc nL s args T0 own) (hK : gK G s) {T : u_T} {N ci : Nat} {a : Nat} (hin : ∀ w ∈ u_ws C T N, w ∈ T0) (hP : va_P G.1 vwCl ws H) (q0 : Nat) {fs : List Value} (he : ws[q0]? = some (a, .inr (ci, fs))) (hc : vwCl[ci]? = some (C, T, N)) (k : Nat) (hk : k < N) (hlink : Cond.fieldLink own index (T k).1 (T k).2.1 (T k).2.2.1 ∈ T0) {v : Value} (hv : fs[k]? = some v) (hdg : decode cc pc = .ok (.getfield index, 3))
    (kk : W p l e R s m args below meth c H locs cells slots Q (F0 m (pc + 3) ls (v :: rest))) : W p l e R s m args below meth c H locs cells slots Q (F0 m pc ls (.ref a :: rest)) :=
  va_get S.1 S.2.1 S.2.2.2.2 hin S.2.2.2.1 hK.1 hP q0 he hc k hk (S.2.2.2.2 _ hlink) (fun _ h9 => h9) hv hdg kk
/-- a private field of a nest mate is read -/
theorem gfN {host : String} (S : CallFix p m c cc nL s args T0 own) (hK : gK G s) {T : u_T} {N ci : Nat} {a : Nat} (hin : ∀ w ∈ u_ws C T N, w ∈ T0) (hP : va_P G.1 vwCl ws H) (q0 : Nat) {fs : List Value} (he : ws[q0]? = some (a, .inr (ci, fs))) (hc : vwCl[ci]? = some (C, T, N)) (k : Nat) (hk : k < N) (j : Nat) (hlink : nF[j]? = some (own, index, (T k).1, (T k).2.1, (T k).2.2.1, host)) {v : Value} (hv : fs[k]? = some v) (hdg : decode cc pc = .ok (.getfield index, 3))
    (kk : W p l e R s m args below meth c H locs cells slots Q (F0 m (pc + 3) ls (v :: rest))) : W p l e R s m args below meth c H locs cells slots Q (F0 m pc ls (.ref a :: rest)) :=
  va_getN S.1 S.2.1 S.2.2.2.2 hin S.2.2.2.1 hK.1 hP q0 he hc k hk (va_Nw.use rfl (hK.2.2.1 _ (List.mem_of_getElem? hlink))) (fun _ h9 => h9) hv hdg kk
/-- a field is written -/
theorem pf (S : CallFix p m c cc nL s args T0 own) (hK : gK G s) {A0 : Nat → Prop} {H0 : Heap} {T : u_T} {N ci : Nat} {a : Nat} (hin : ∀ w ∈ u_ws C T N, w ∈ T0) (ty0 : Nat → FieldType) (hty : ∀ k, k < N → parseFieldDescriptor (T k).2.2.1 = some (ty0 k)) (hnm : ∀ a, a < N → ∀ b, b < N → a ≠ b → (T a).2.1 ≠ (T b).2.1) (hP : va_P G.1 vwCl ws H) (hD : va_D A0 ws) (hS : va_S A0 H0 H locs) (q0 : Nat) {fs : List Value} (he : ws[q0]? = some (a, .inr (ci, fs))) (hc : vwCl[ci]? = some (C, T, N)) (k : Nat) (hk : k < N) (hlink : Cond.fieldLink own index (T k).1 (T k).2.1 (T k).2.2.1 ∈ T0) (hfin : (T k).2.2.2 = false) {v : Value} (hn : narrow (ty0 k) v = v) (hfit : fits (ty0 k) v = true) (hl : k < fs.length) (ws1 : va_W) (hw1 : ws.set q0 (a, .inr (ci, fs.set k v)) = ws1) (hdg : decode cc pc = .ok (.putfield index, 3))
    (kk : ∀ (H1 : Heap) (locs1 : List Loc), va_P G.1 vwCl ws1 H1 → va_D A0 ws1 → va_S A0 H0 H1 locs1 → W p l e R s m args below meth c H1 locs1 cells slots Q (F0 m (pc + 3) ls rest)) : W p l e R s m args below meth c H locs cells slots Q (F0 m pc ls (v :: .ref a :: rest)) := by
  subst hw1
  exact va_put S.1 S.2.1 S.2.2.2.2 hin ty0 hty hnm S.2.2.2.1 hK.1 hP hD hS q0 he hc k hk (S.2.2.2.2 _ hlink) (fun _ h9 => h9) hfin (hty k hk) hn hfit hl hdg kk
/-- a place of an array of ints is read -/
theorem ald (S : CallFix p m c cc nL s args T0 own) (hK : gK G s) (hP : va_P G.1 vwCl ws H) (q0 : Nat) {a n : Nat} {f : Nat → Int32} (ha : ws[q0]? = some (a, .inl (G.2.2.1, n, .inl f))) {i : Int32} (hin : vp_in i n) (hdg : decode cc pc = .ok (.iaload, 1))
    (kk : W p l e R s m args below meth c H locs cells slots Q (F0 m (pc + 1) ls (.int (f i.toNatClampNeg) :: rest))) : W p l e R s m args below meth c H locs cells slots Q (F0 m pc ls (.int i :: .ref a :: rest)) :=
  va_iald S.1 S.2.1 hK.1 hP q0 1 ha rfl hin hdg kk
theorem cald (S : CallFix p m c cc nL s args T0 own) (hK : gK G s) (hP : va_P G.1 vwCl ws H) (q0 : Nat) {a n : Nat} {f : Nat → Int32} (ha : ws[q0]? = some (a, .inl (G.2.1, n, .inl f))) {i : Int32} (hin : vp_in i n) (hdg : decode cc pc = .ok (.caload, 1))
    (kk : W p l e R s m args below meth c H locs cells slots Q (F0 m (pc + 1) ls (.int (f i.toNatClampNeg) :: rest))) : W p l e R s m args below meth c H locs cells slots Q (F0 m pc ls (.int i :: .ref a :: rest)) :=
  va_cald S.1 S.2.1 hK.1 hP q0 0 ha rfl hin hdg kk
/-- a place of an array of ints is written -/
theorem ast (S : CallFix p m c cc nL s args T0 own) (hK : gK G s) {A0 : Nat → Prop} {H0 : Heap} (hP : va_P G.1 vwCl ws H) (hD : va_D A0 ws) (hS : va_S A0 H0 H locs) (q0 : Nat) {a n : Nat} {f : Nat → Int32} (ha : ws[q0]? = some (a, .inl (G.2.2.1, n, .inl f))) {i x : Int32} (hin : vp_in i n) (ws1 : va_W) (hw1 : ws.set q0 (a, .inl (G.2.2.1, n, .inl (upd f i.toNatClampNeg x))) = ws1) (hdg : decode cc pc = .ok (.iastore, 1))
    (kk : ∀ (H1 : Heap) (locs1 : List Loc), va_P G.1 vwCl ws1 H1 → va_D A0 ws1 → va_S A0 H0 H1 locs1 → W p l e R s m args below meth c H1 locs1 cells slots Q (F0 m (pc + 1) ls rest)) : W p l e R s m args below meth c H locs cells slots Q (F0 m pc ls (.int x :: .int i :: .ref a :: rest)) := by
  subst hw1
  exact va_iast S.1 S.2.1 hK.1 hP hD hS q0 1 ha rfl hin hdg kk
theorem cast_ (S : CallFix p m c cc nL s args T0 own) (hK : gK G s) {A0 : Nat → Prop} {H0 : Heap} (hP : va_P G.1 vwCl ws H) (hD : va_D A0 ws) (hS : va_S A0 H0 H locs) (q0 : Nat) {a n : Nat} {f : Nat → Int32} (ha : ws[q0]? = some (a, .inl (G.2.1, n, .inl f))) {i x : Int32} (hin : vp_in i n) (ws1 : va_W) (hw1 : ws.set q0 (a, .inl (G.2.1, n, .inl (upd f i.toNatClampNeg (vp_nar .char x)))) = ws1) (hdg : decode cc pc = .ok (.castore, 1))
    (kk : ∀ (H1 : Heap) (locs1 : List Loc), va_P G.1 vwCl ws1 H1 → va_D A0 ws1 → va_S A0 H0 H1 locs1 → W p l e R s m args below meth c H1 locs1 cells slots Q (F0 m (pc + 1) ls rest)) : W p l e R s m args below meth c H locs cells slots Q (F0 m pc ls (.int x :: .int i :: .ref a :: rest)) := by
  subst hw1
  exact va_cast S.1 S.2.1 hK.1 hP hD hS q0 0 ha rfl hin hdg kk
/-- a reading method's end -/
theorem retR (S : CallFix p m c cc nL s args T0 own) (hr : meth.sig.returnType = some rt) (hlk : meth.locks = false) {v : Int32} (hn : narrow rt (.int v) = .int v) (h : v = res) (hdg : decode cc pc = .ok (.ireturn, 1)) :
    W p l e R s m args below meth c s.heap [] 0 0 (MQ below (vp_Si (fun x => x = res)) args s 0 0 (fun _ => False)) (F0 m pc ls [.int v]) :=
  W.zret S.1 S.2.1 hr hn (fun t ht _ => ⟨v, rfl, h, ht⟩) (fun q hq => by cases hq) hdg hlk
/-- a writing method's end, with a number -/
theorem retW (S : CallFix p m c cc nL s args T0 own) (hr : meth.sig.returnType = some rt) (hlk : meth.locks = false) {v : Int32} (hn : narrow rt (.int v) = .int v) {o : Option Int32} {ws' : va_W} {A : Nat → Prop} (ho : o = some v) (hP : va_P G.1 vwCl ws' H) (hD : va_D A ws') (hS : va_S A s.heap H locs) (hdg : decode cc pc = .ok (.ireturn, 1)) :
    W p l e R s m args below meth c H locs cells slots (MQ below (gQw G o ws' A) args s cells slots A) (F0 m pc ls [.int v]) := by
  subst ho
  exact W.zret S.1 S.2.1 hr hn (fun t ht _ => ⟨⟨rfl, by rw [ht]; exact hP, hD⟩, hS.F ht⟩) hS.2.2 hdg hlk
/-- a writing method's end, without -/
theorem retV (S : CallFix p m c cc nL s args T0 own) (hr : meth.sig.returnType = none) (hlk : meth.locks = false) {ws' : va_W} {A : Nat → Prop} (hP : va_P G.1 vwCl ws' H) (hD : va_D A ws') (hS : va_S A s.heap H locs) (hdg : decode cc pc = .ok (.return_, 1)) :
    W p l e R s m args below meth c H locs cells slots (MQ below (gQw G none ws' A) args s cells slots A) (F0 m pc ls []) :=
  W.vret S.1 S.2.1 hr (fun t ht _ => ⟨⟨rfl, by rw [ht]; exact hP, hD⟩, hS.F ht⟩) hS.2.2 hdg hlk
end RD
section EN
variable {l : Launch} {G : gG} {y : MethodName} {cc : ByteArray} {nL : Nat} {rt : FieldType} {r0 : Option FieldType} {rm : Room} {ws : va_W} {av : List Value} {res : Int32}
/-- a reading method's start -/
theorem ofR (hy : plainName y.cls = true) (hav : (lg_sl av).length ≤ nL)
    (k : ∀ (p : Program) (e : Env) (s : State) (m : MethodId) (below : List Frame) (meth : Method) (c : Code) (ls : Array Slot), CallFix p m c cc nL s av.toArray T0 y.cls → meth.sig.returnType = some rt → meth.locks = false → gK G s → va_P G.1 vwCl ws s.heap → lv_has ls nL (lv_args 0 av) →
      W p l e rm s m av.toArray below meth c s.heap [] 0 0 (MQ below (vp_Si (fun x => x = res)) av.toArray s 0 0 (fun _ => False)) (F0 m 0 ls [])) : RdM l G y cc nL rt rm ws av res := by
  refine Met.ofW (cc := cc) (maxL := nL) (ret := some rt) hy rfl ?_
  intro p e s m args below meth c s₁ B hml hv
  obtain ⟨rfl, hP, hK⟩ := hv
  have hts := atoms_spec (ws := wq y cc nL (some rt)) B.pre
  rw [lg_entry_eq]
  exact k p e s m below meth c _ ⟨B.exec, B.bytes, hml, findClass_of_methodNamed B.named, fun w h => hts w (List.mem_cons_of_mem _ h)⟩ B.returns B.notSynchronized hK hP (lv_entry av hav)
/-- a writing method's start -/
theorem ofWr {o : Option Int32} {ws' : va_W} {sz : Nat} (hy : plainName y.cls = true) (hav : (lg_sl av).length ≤ nL)
    (k : ∀ (p : Program) (e : Env) (s : State) (m : MethodId) (below : List Frame) (meth : Method) (c : Code) (ls : Array Slot) (A : Nat → Prop), CallFix p m c cc nL s av.toArray T0 y.cls → meth.sig.returnType = r0 → meth.locks = false → gK G s → va_P G.1 vwCl ws s.heap → va_D A ws → va_S A s.heap s.heap [] → (∀ q : Nat, s.heap.size ≤ q → A q) → lv_has ls nL (lv_args 0 av) →
      W p l e rm s m av.toArray below meth c s.heap [] 0 0 (MQ below (gQw G o ws' A) av.toArray s 0 0 A) (F0 m 0 ls [])) : WrM l G y cc nL r0 rm ws sz av o ws' := by
  refine Met.ofW (cc := cc) (maxL := nL) (ret := r0) hy rfl ?_
  intro p e s m args below meth c s₁ B hml hv
  obtain ⟨rfl, hsz, hP, hK, hD⟩ := hv
  subst hsz
  have hts := atoms_spec (ws := wq y cc nL r0) B.pre
  rw [lg_entry_eq]
  exact k p e s m below meth c _ _ ⟨B.exec, B.bytes, hml, findClass_of_methodNamed B.named, fun w h => hts w (List.mem_cons_of_mem _ h)⟩ B.returns B.notSynchronized hK hP hD.self va_S.rf (fun q h => Or.inr h) (lv_entry av hav)
end EN
/-! the mirrors: partial functions, a check a place -/
def ok (i : Int32) (n : Nat) : Bool := decide (0 ≤ i.toInt) && decide (i.toInt < n)
theorem ok_vp {i : Int32} {n : Nat} (h : ok i n = true) : vp_in i n := by
  unfold ok at h
  rw [Bool.and_eq_true, decide_eq_true_eq, decide_eq_true_eq] at h
  exact vp_in_iff.mpr h
def ck {α : Type} (b : Bool) (x : Option α) : Option α := if b = true then x else none
theorem ck_t {α : Type} {b : Bool} {x : Option α} {r : α} (h : ck b x = some r) : b = true ∧ x = some r := by
  unfold ck at h
  by_cases hb : b = true
  · rw [if_pos hb] at h; exact ⟨hb, h⟩
  · rw [if_neg hb] at h; cases h
def nz (x : Int32) : Bool := !decide (x = 0)
theorem nz_t {x : Int32} (h : nz x = true) : ¬ x = 0 := by
  unfold nz at h
  intro e
  rw [decide_eq_true e] at h
  cases h
theorem bd_t {α β : Type} {x : Option α} {f : α → Option β} {r : β} (h : x.bind f = some r) : ∃ a, x = some a ∧ f a = some r := Option.bind_eq_some_iff.mp h
theorem if_t {α : Type} {c : Prop} {dc : Decidable c} {a b : Option α} {r : α} (hc : c) (h : (@ite _ c dc a b) = some r) : a = some r := by rw [if_pos hc] at h; exact h
theorem if_f {α : Type} {c : Prop} {dc : Decidable c} {a b : Option α} {r : α} (hc : ¬ c) (h : (@ite _ c dc a b) = some r) : b = some r := by rw [if_neg hc] at h; exact h
def nmd {α : Type} (x : Int32) (f : Int32 → Option α) : Option α := f x
theorem nmd_t {α : Type} {x y : Int32} {f : Int32 → Option α} {r : α} (hy : y = x) (h : nmd x f = some r) : f y = some r := by rw [hy]; exact h
end
section
def F_X0_row (fr : Nat → Option Nat) (p1 : Int32) : Option (Option Nat) := if p1 < 0 then some none else (if 4 ≤ p1 then some none else ck (ok p1 4) (some (fr (Int32.toNatClampNeg p1))))
def F_J6_bitCount_0f7a4 (p0 : Int32) : Option (Int32) := nmd ((p0.toUInt32 >>> ((1 : Int32).toUInt32 &&& Int32.toUInt32 31)).toInt32) fun v1 => nmd (((p0 - (v1 &&& 1431655765)).toUInt32 >>> ((2 : Int32).toUInt32 &&& Int32.toUInt32 31)).toInt32) fun v2 => nmd (((p0 - (v1 &&& 1431655765)) &&& 858993459) + (v2 &&& 858993459)) fun v3 => nmd ((v3.toUInt32 >>> ((4 : Int32).toUInt32 &&& Int32.toUInt32 31)).toInt32) fun v4 => nmd ((((v3 + v4) &&& 252645135).toUInt32 >>> ((8 : Int32).toUInt32 &&& Int32.toUInt32 31)).toInt32) fun v5 => nmd (((((v3 + v4) &&& 252645135) + v5).toUInt32 >>> ((16 : Int32).toUInt32 &&& Int32.toUInt32 31)).toInt32) fun v6 => nmd (((((v3 + v4) &&& 252645135) + v5) + v6) &&& 63) fun v7 => some v7
def F_J9_floorMod_7cf53 (p0 : Int32) (p1 : Int32) : Option (Int32) := ck (nz p1) (if 0 ≤ (p0 ^^^ p1) then (some (p0 - p0 / p1 * p1)) else (if (p0 - p0 / p1 * p1) = 0 then (some (p0 - p0 / p1 * p1)) else (some ((p0 - p0 / p1 * p1) + p1))))
def F_X4_isPlace (p0 : Int32) : Option (Int32) := if p0 < 0 then (some 0) else (if 24 ≤ p0 then (some 0) else (some 1))
def F_X4_isPower (p0 : Int32) : Option (Int32) := if p0 < (-9999) then (some 0) else (if 9999 < p0 then (some 0) else (some 1))
def F_X4_asNumber (p0 : Int32) : Option (Int32) := if p0 = 0 then (some 0) else (some 1)
def F_X4_only (p0 : Int32) : Option (Int32) := some ((1 : Int32) <<< (p0 &&& 31))
def F_X4_has (p0 : Int32) (p1 : Int32) : Option (Int32) := if (p0 &&& ((1 : Int32) <<< (p1 &&& 31))) = 0 then (some 0) else (some 1)
def F_X4_lowest_2 : Nat → Int32 → Int32 → Option (Int32)
  | 0, _, _ => none
  | n + 1, x0, x1 => if 24 ≤ x1 then (some (-5)) else (Option.bind (F_X4_has x0 x1) fun r2 => if r2 = 0 then (F_X4_lowest_2 n x0 (x1 + 1)) else (some x1))
def F_X4_lowest (p0 : Int32) : Option (Int32) := F_X4_lowest_2 10000 p0 0
def F_X4_leastCommonMultiple_9 : Nat → Int32 → Int32 → Int32 → Option (Int32)
  | 0, _, _, _ => none
  | n + 1, x0, x1, x2 => if x1 ≤ x2 then (some (x0 * x1)) else (ck (nz x1) (if ((x0 * x2) - (x0 * x2) / x1 * x1) = 0 then (some (x0 * x2)) else (F_X4_leastCommonMultiple_9 n x0 x1 (x2 + 1))))
def F_X4_leastCommonMultiple (p0 : Int32) (p1 : Int32) : Option (Int32) := if 1 ≤ p1 then (F_X4_leastCommonMultiple_9 10000 p0 p1 1) else (some p0)
def F_X1_target (ft : Nat → Int32) (p1 : Int32) : Option (Int32) := Option.bind (F_X4_isPlace p1) fun r1 => if r1 = 0 then (some (-1)) else (ck (ok p1 24) (some (ft (Int32.toNatClampNeg p1))))
def F_X1_source (fu : Nat → Int32) (p1 : Int32) : Option (Int32) := Option.bind (F_X4_isPlace p1) fun r1 => if r1 = 0 then (some (-1)) else (ck (ok p1 24) (some (fu (Int32.toNatClampNeg p1))))
def F_X1_round_7 (ft : Nat → Int32) : Nat → Int32 → Int32 → Int32 → Int32 → Option (Int32)
  | 0, _, _, _, _ => none
  | n + 1, x1, x2, x3, x4 => if 24 ≤ x4 then (some x2) else (Option.bind (F_X4_isPlace x3) fun r2 => if r2 = 0 then (some x2) else (Option.bind (F_X4_has x2 x3) fun r4 => if r4 = 0 then (Option.bind (F_X4_only x3) fun r6 => ck (ok x3 24) (F_X1_round_7 ft n x1 (x2 ||| r6) (ft (Int32.toNatClampNeg x3)) (x4 + 1))) else (some x2)))
def F_X1_round (ft : Nat → Int32) (p1 : Int32) : Option (Int32) := F_X1_round_7 ft 10000 p1 0 p1 0
def F_X1_order_6 (ft : Nat → Int32) : Nat → Int32 → Int32 → Int32 → Option (Int32)
  | 0, _, _, _ => none
  | n + 1, x1, x2, x3 => if 24 ≤ x3 then (some x1) else (Option.bind (F_X4_has x2 x3) fun r2 => if r2 = 0 then (Option.bind (F_X1_round ft x3) fun r4 => Option.bind (F_J6_bitCount_0f7a4 r4) fun r5 => Option.bind (F_X4_leastCommonMultiple x1 r5) fun r6 => F_X1_order_6 ft n r6 (x2 ||| r4) (x3 + 1)) else (F_X1_order_6 ft n x1 x2 (x3 + 1)))
def F_X1_order (ft : Nat → Int32) : Option (Int32) := F_X1_order_6 ft 10000 1 0 0
def F_X1_rounds_6 (ft : Nat → Int32) : Nat → Int32 → Int32 → Int32 → Option (Int32)
  | 0, _, _, _ => none
  | n + 1, x1, x2, x3 => if 24 ≤ x3 then (some x1) else (Option.bind (F_X4_has x2 x3) fun r2 => if r2 = 0 then (Option.bind (F_X1_round ft x3) fun r4 => F_X1_rounds_6 ft n (x1 + 1) (x2 ||| r4) (x3 + 1)) else (F_X1_rounds_6 ft n x1 x2 (x3 + 1)))
def F_X1_rounds (ft : Nat → Int32) : Option (Int32) := F_X1_rounds_6 ft 10000 0 0 0
def F_X1_fixedPlaces_4 (ft : Nat → Int32) : Nat → Int32 → Int32 → Option (Int32)
  | 0, _, _ => none
  | n + 1, x1, x2 => if 24 ≤ x2 then (some x1) else (ck (ok x2 24) (if (ft (Int32.toNatClampNeg x2)) = x2 then (F_X1_fixedPlaces_4 ft n (x1 + 1) (x2 + 1)) else (F_X1_fixedPlaces_4 ft n x1 (x2 + 1))))
def F_X1_fixedPlaces (ft : Nat → Int32) : Option (Int32) := F_X1_fixedPlaces_4 ft 10000 0 0
def F_X1_longestRound_4 (ft : Nat → Int32) : Nat → Int32 → Int32 → Option (Int32)
  | 0, _, _ => none
  | n + 1, x1, x2 => if 24 ≤ x2 then (some x1) else (Option.bind (F_X1_round ft x2) fun r2 => Option.bind (F_J6_bitCount_0f7a4 r2) fun r3 => nmd (if x1 < r3 then r3 else x1) fun v4 => F_X1_longestRound_4 ft n v4 (x2 + 1))
def F_X1_longestRound (ft : Nat → Int32) : Option (Int32) := F_X1_longestRound_4 ft 10000 0 0
def F_X1_isEven (ft : Nat → Int32) : Option (Int32) := Option.bind (F_X1_rounds ft) fun r1 => if (((24 : Int32) - r1) - ((24 : Int32) - r1) / 2 * 2) = 0 then (some 1) else (some 0)
def F_X1_leavesAll (ft : Nat → Int32) (p1 : Int32) : Option (Int32) := Option.bind (F_X1_order ft) fun r1 => if r1 ≤ 0 then (some 0) else (ck (nz r1) (if (p1 - p1 / r1 * r1) = 0 then (some 1) else (some 0)))
def F_X1_targetBehind_29 (ft : Nat → Int32) : Nat → Int32 → Int32 → Int32 → Int32 → Int32 → Int32 → Option (Int32)
  | 0, _, _, _, _, _, _ => none
  | n + 1, x1, x2, x3, x4, x5, x6 => if x4 ≤ x6 then (some x5) else (Option.bind (F_X4_isPlace x5) fun r6 => if r6 = 0 then (some x5) else (ck (ok x5 24) (F_X1_targetBehind_29 ft n x1 x2 x3 x4 (ft (Int32.toNatClampNeg x5)) (x6 + 1))))
def F_X1_targetBehind (ft : Nat → Int32) (p1 : Int32) (p2 : Int32) : Option (Int32) := Option.bind (F_X1_round ft p1) fun r1 => Option.bind (F_J6_bitCount_0f7a4 r1) fun r2 => if 1 ≤ r2 then (Option.bind (F_J9_floorMod_7cf53 p2 r2) fun r4 => F_X1_targetBehind_29 ft 10000 p1 p2 r2 r4 p1 0) else (some p1)
def F_X1_moved_4 (ft : Nat → Int32) : Nat → Int32 → Int32 → Int32 → Option (Int32)
  | 0, _, _, _ => none
  | n + 1, x1, x2, x3 => if 24 ≤ x3 then (some x2) else (Option.bind (F_X4_has x1 x3) fun r2 => if r2 = 0 then (F_X1_moved_4 ft n x1 x2 (x3 + 1)) else (ck (ok x3 24) (Option.bind (F_X4_only (ft (Int32.toNatClampNeg x3))) fun r5 => F_X1_moved_4 ft n x1 (x2 ||| r5) (x3 + 1))))
def F_X1_moved (ft : Nat → Int32) (p1 : Int32) : Option (Int32) := F_X1_moved_4 ft 10000 p1 0 0
def F_X1_movedBy_5 (ft : Nat → Int32) : Nat → Int32 → Int32 → Int32 → Int32 → Option (Int32)
  | 0, _, _, _, _ => none
  | n + 1, x1, x2, x3, x4 => if 24 ≤ x4 then (some x3) else (Option.bind (F_X4_has x1 x4) fun r2 => if r2 = 0 then (F_X1_movedBy_5 ft n x1 x2 x3 (x4 + 1)) else (Option.bind (F_X1_targetBehind ft x4 x2) fun r4 => Option.bind (F_X4_only r4) fun r5 => F_X1_movedBy_5 ft n x1 x2 (x3 ||| r5) (x4 + 1)))
def F_X1_movedBy (ft : Nat → Int32) (p1 : Int32) (p2 : Int32) : Option (Int32) := F_X1_movedBy_5 ft 10000 p1 p2 0 0
def F_X1_movesUntilAlike_11 (ft : Nat → Int32) : Nat → Int32 → Int32 → Int32 → Int32 → Int32 → Option (Int32)
  | 0, _, _, _, _, _ => none
  | n + 1, x1, x2, x3, x4, x5 => if x3 ≤ x5 then (some (-5)) else (if x4 = x2 then (some x5) else (Option.bind (F_X1_moved ft x4) fun r4 => F_X1_movesUntilAlike_11 ft n x1 x2 x3 r4 (x5 + 1)))
def F_X1_movesUntilAlike (ft : Nat → Int32) (p1 : Int32) (p2 : Int32) : Option (Int32) := Option.bind (F_X1_order ft) fun r1 => F_X1_movesUntilAlike_11 ft 10000 p1 p2 r1 p1 0
def F_X1_movesUntilSame (ft : Nat → Int32) (p1 : Int32) : Option (Int32) := Option.bind (F_X1_moved ft p1) fun r1 => Option.bind (F_X1_movesUntilAlike ft r1 p1) fun r2 => some (r2 + 1)
def F_X1_movesUntilMeeting_5 (ft : Nat → Int32) : Nat → Int32 → Int32 → Int32 → Int32 → Option (Int32)
  | 0, _, _, _, _ => none
  | n + 1, x1, x2, x3, x4 => if 24 ≤ x4 then (some (-5)) else (if (x3 &&& x2) = 0 then (Option.bind (F_X1_moved ft x3) fun r3 => F_X1_movesUntilMeeting_5 ft n x1 x2 r3 (x4 + 1)) else (some x4))
def F_X1_movesUntilMeeting (ft : Nat → Int32) (p1 : Int32) (p2 : Int32) : Option (Int32) := F_X1_movesUntilMeeting_5 ft 10000 p1 p2 p1 0
def F_X1_hasLikeNumbersInRounds_2 (ft : Nat → Int32) : Nat → Int32 → Int32 → Int32 → Option (Int32)
  | 0, _, _, _ => none
  | n + 1, x1, x2, x3 => if 24 ≤ x3 then (some 1) else (Option.bind (F_X1_round ft x3) fun r2 => Option.bind (F_J6_bitCount_0f7a4 (x1 &&& r2)) fun r3 => Option.bind (F_J6_bitCount_0f7a4 (x2 &&& r2)) fun r4 => if r3 = r4 then (F_X1_hasLikeNumbersInRounds_2 ft n x1 x2 (x3 + 1)) else (some 0))
def F_X1_hasLikeNumbersInRounds (ft : Nat → Int32) (p1 : Int32) (p2 : Int32) : Option (Int32) := F_X1_hasLikeNumbersInRounds_2 ft 10000 p1 p2 0
def F_X1_send (ft : Nat → Int32) (fu : Nat → Int32) (p1 : Int32) (p2 : Int32) : Option ((Nat → Int32) × (Nat → Int32)) := Option.bind (F_X4_isPlace p1) fun r1 => if r1 = 0 then (some (ft, fu)) else (Option.bind (F_X4_isPlace p2) fun r3 => if r3 = 0 then (some (ft, fu)) else (ck (ok p1 24) (ck (ok p2 24) (some (upd ft (Int32.toNatClampNeg p1) p2, upd fu (Int32.toNatClampNeg p2) p1)))))
def F_X1_swapTargets (ft : Nat → Int32) (fu : Nat → Int32) (p1 : Int32) (p2 : Int32) : Option ((Nat → Int32) × (Nat → Int32)) := Option.bind (F_X1_target ft p1) fun r1 => Option.bind (F_X1_target ft p2) fun r2 => Option.bind (F_X1_send ft fu p1 r2) fun r3 => Option.bind (F_X1_send r3.1 r3.2 p2 r1) fun r4 => some (r4.1, r4.2)
def F_X1_copy (ft : Nat → Int32) (fu : Nat → Int32) (sft : Nat → Int32) (sfu : Nat → Int32) : Option ((Nat → Int32) × (Nat → Int32)) := some (va_cpy sft ft (Int32.toNatClampNeg 0) (Int32.toNatClampNeg 0) (Int32.toNatClampNeg 24), va_cpy sfu fu (Int32.toNatClampNeg 0) (Int32.toNatClampNeg 0) (Int32.toNatClampNeg 24))
def F_X1_turnBack (qt : Nat) (qu : Nat) : Option (Nat × Nat) := some (qu, qt)
def F_X2_length (xlen : Int32) : Option (Int32) := some xlen
def F_X2_faultIndex (xidx : Int32) : Option (Int32) := some xidx
def F_X2_faultKind (xknd : Int32) : Option (Int32) := some xknd
def F_X2_target (xft : Nat → Int32) (p1 : Int32) : Option (Int32) := Option.bind (F_X4_isPlace p1) fun r1 => if r1 = 0 then (some (-1)) else (ck (ok p1 24) (some (xft (Int32.toNatClampNeg p1))))
def F_X2_isDigit (p0 : Int32) : Option (Int32) := if p0 < 48 then (some 0) else (if 57 < p0 then (some 0) else (some 1))
def F_X2_append (xlen : Int32) (xfc : Nat → Int32) (p1 : Int32) : Option (Int32 × (Nat → Int32)) := if xlen < 0 then (some (xlen, xfc)) else (if 80 ≤ xlen then (some (xlen, xfc)) else (ck (ok xlen 80) (some (xlen + 1, upd xfc (Int32.toNatClampNeg xlen) (vp_nar .char p1)))))
def F_X2_empty (xlen : Int32) : Option (Int32) := some 0
def F_X2_startReading_2 : Nat → Int32 → Int32 → Int32 → Int32 → (Nat → Int32) → Option (Int32 × Int32 × Int32 × (Nat → Int32))
  | 0, _, _, _, _, _ => none
  | n + 1, x1, xknd, xawt, xcam, xft => if 24 ≤ x1 then (some (0, 0, 0, xft)) else (ck (ok x1 24) (F_X2_startReading_2 n (x1 + 1) xknd xawt xcam (upd xft (Int32.toNatClampNeg x1) x1)))
def F_X2_startReading (xknd : Int32) (xawt : Int32) (xcam : Int32) (xft : Nat → Int32) : Option (Int32 × Int32 × Int32 × (Nat → Int32)) := F_X2_startReading_2 10000 0 xknd xawt xcam xft
def F_X2_startRound (xawt : Int32) (xfst : Int32) (p1 : Int32) : Option (Int32 × Int32 × Int32) := if p1 = 40 then (some (0, 1, (-5))) else (some (4, xawt, xfst))
def F_X2_startPlace (xawt : Int32) (xnum : Int32) (p1 : Int32) : Option (Int32 × Int32 × Int32) := Option.bind (F_X2_isDigit p1) fun r1 => if r1 = 0 then (some (4, xawt, xnum)) else (some (0, 2, p1 - 48))
def F_X2_lengthenPlace (xnum : Int32) (p1 : Int32) : Option (Int32 × Int32) := if xnum = 0 then (some (2, xnum)) else (if ((xnum * 10) + (p1 - 48)) < 24 then (some (0, (xnum * 10) + (p1 - 48))) else (some (2, xnum)))
def F_X2_send (xft : Nat → Int32) (p1 : Int32) (p2 : Int32) : Option ((Nat → Int32)) := Option.bind (F_X4_isPlace p1) fun r1 => if r1 = 0 then (some xft) else (Option.bind (F_X4_isPlace p2) fun r3 => if r3 = 0 then (some xft) else (ck (ok p1 24) (some (upd xft (Int32.toNatClampNeg p1) p2))))
def F_X2_endPlace (xawt : Int32) (xnum : Int32) (xcam : Int32) (xfst : Int32) (xlst : Int32) (xft : Nat → Int32) (p1 : Int32) : Option (Int32 × Int32 × Int32 × Int32 × Int32 × (Nat → Int32)) := Option.bind (F_X4_has xcam xnum) fun r1 => if r1 = 0 then (if xfst = (-5) then (if p1 = 44 then (if (1 : Int32) = 0 then (Option.bind (F_X2_send xft xlst xnum) fun r25 => Option.bind (F_X4_only xnum) fun r26 => if p1 = 41 then (Option.bind (F_X2_send r25 xnum xfst) fun r28 => some (0, 0, xcam ||| r26, xfst, xnum, r28)) else (some (0, 1, xcam ||| r26, xfst, xnum, r25))) else (Option.bind (F_X4_only xnum) fun r29 => if p1 = 41 then (Option.bind (F_X2_send xft xnum xnum) fun r31 => some (0, 0, xcam ||| r29, xnum, xnum, r31)) else (some (0, 1, xcam ||| r29, xnum, xnum, xft)))) else (if p1 = 41 then (if (1 : Int32) = 0 then (if (1 : Int32) = 0 then (Option.bind (F_X2_send xft xlst xnum) fun r35 => Option.bind (F_X4_only xnum) fun r36 => if p1 = 41 then (Option.bind (F_X2_send r35 xnum xfst) fun r38 => some (0, 0, xcam ||| r36, xfst, xnum, r38)) else (some (0, 1, xcam ||| r36, xfst, xnum, r35))) else (Option.bind (F_X4_only xnum) fun r39 => if p1 = 41 then (Option.bind (F_X2_send xft xnum xnum) fun r41 => some (0, 0, xcam ||| r39, xnum, xnum, r41)) else (some (0, 1, xcam ||| r39, xnum, xnum, xft)))) else (some (4, xawt, xcam, xfst, xlst, xft))) else (some (4, xawt, xcam, xfst, xlst, xft)))) else (if p1 = 44 then (if (0 : Int32) = 0 then (Option.bind (F_X2_send xft xlst xnum) fun r6 => Option.bind (F_X4_only xnum) fun r7 => if p1 = 41 then (Option.bind (F_X2_send r6 xnum xfst) fun r9 => some (0, 0, xcam ||| r7, xfst, xnum, r9)) else (some (0, 1, xcam ||| r7, xfst, xnum, r6))) else (Option.bind (F_X4_only xnum) fun r10 => if p1 = 41 then (Option.bind (F_X2_send xft xnum xnum) fun r12 => some (0, 0, xcam ||| r10, xnum, xnum, r12)) else (some (0, 1, xcam ||| r10, xnum, xnum, xft)))) else (if p1 = 41 then (if (0 : Int32) = 0 then (if (0 : Int32) = 0 then (Option.bind (F_X2_send xft xlst xnum) fun r16 => Option.bind (F_X4_only xnum) fun r17 => if p1 = 41 then (Option.bind (F_X2_send r16 xnum xfst) fun r19 => some (0, 0, xcam ||| r17, xfst, xnum, r19)) else (some (0, 1, xcam ||| r17, xfst, xnum, r16))) else (Option.bind (F_X4_only xnum) fun r20 => if p1 = 41 then (Option.bind (F_X2_send xft xnum xnum) fun r22 => some (0, 0, xcam ||| r20, xnum, xnum, r22)) else (some (0, 1, xcam ||| r20, xnum, xnum, xft)))) else (some (4, xawt, xcam, xfst, xlst, xft))) else (some (4, xawt, xcam, xfst, xlst, xft))))) else (some (3, xawt, xcam, xfst, xlst, xft))
def F_X2_faultOf (xawt : Int32) (xnum : Int32) (xcam : Int32) (xfst : Int32) (xlst : Int32) (xft : Nat → Int32) (p1 : Int32) : Option (Int32 × Int32 × Int32 × Int32 × Int32 × Int32 × (Nat → Int32)) := if xawt = 0 then (Option.bind (F_X2_startRound xawt xfst p1) fun r1 => some (r1.1, r1.2.1, xnum, xcam, r1.2.2, xlst, xft)) else (if xawt = 1 then (Option.bind (F_X2_startPlace xawt xnum p1) fun r2 => some (r2.1, r2.2.1, r2.2.2, xcam, xfst, xlst, xft)) else (Option.bind (F_X2_isDigit p1) fun r3 => if r3 = 0 then (Option.bind (F_X2_endPlace xawt xnum xcam xfst xlst xft p1) fun r5 => some (r5.1, r5.2.1, xnum, r5.2.2.1, r5.2.2.2.1, r5.2.2.2.2.1, r5.2.2.2.2.2)) else (Option.bind (F_X2_lengthenPlace xnum p1) fun r6 => some (r6.1, xawt, r6.2, xcam, xfst, xlst, xft))))
def F_X2_faultOfEnd (xawt : Int32) (xnum : Int32) (xcam : Int32) : Option (Int32) := if xawt = 2 then (Option.bind (F_X4_has xcam xnum) fun r4 => if r4 = 0 then (if xawt = 0 then (if xcam = 0 then (some 1) else (some 0)) else (some 1)) else (some 3)) else (if xawt = 0 then (if xcam = 0 then (some 1) else (some 0)) else (some 1))
def F_X2_read_6 (xlen : Int32) (xfc : Nat → Int32) : Nat → Int32 → Int32 → Int32 → Int32 → Int32 → Int32 → Int32 → Int32 → (Nat → Int32) → Option (Int32 × Int32 × Int32 × Int32 × Int32 × Int32 × Int32 × (Nat → Int32))
  | 0, _, _, _, _, _, _, _, _, _ => none
  | n + 1, x1, xidx, xknd, xawt, xnum, xcam, xfst, xlst, xft => if 80 ≤ x1 then (if xknd = 0 then (Option.bind (F_X2_faultOfEnd xawt xnum xcam) fun r4 => some (xlen, r4, xawt, xnum, xcam, xfst, xlst, xft)) else (some (xidx, xknd, xawt, xnum, xcam, xfst, xlst, xft))) else (if xlen ≤ x1 then (if xknd = 0 then (Option.bind (F_X2_faultOfEnd xawt xnum xcam) fun r7 => some (xlen, r7, xawt, xnum, xcam, xfst, xlst, xft)) else (some (xidx, xknd, xawt, xnum, xcam, xfst, xlst, xft))) else (if xknd = 0 then (ck (ok x1 80) (Option.bind (F_X2_faultOf xawt xnum xcam xfst xlst xft (xfc (Int32.toNatClampNeg x1))) fun r12 => F_X2_read_6 xlen xfc n (x1 + 1) x1 r12.1 r12.2.1 r12.2.2.1 r12.2.2.2.1 r12.2.2.2.2.1 r12.2.2.2.2.2.1 r12.2.2.2.2.2.2)) else (if xknd = 0 then (Option.bind (F_X2_faultOfEnd xawt xnum xcam) fun r10 => some (xlen, r10, xawt, xnum, xcam, xfst, xlst, xft)) else (some (xidx, xknd, xawt, xnum, xcam, xfst, xlst, xft)))))
def F_X2_read (xlen : Int32) (xidx : Int32) (xknd : Int32) (xawt : Int32) (xnum : Int32) (xcam : Int32) (xfst : Int32) (xlst : Int32) (xfc : Nat → Int32) (xft : Nat → Int32) : Option (Int32 × Int32 × Int32 × Int32 × Int32 × Int32 × Int32 × (Nat → Int32)) := Option.bind (F_X2_startReading xknd xawt xcam xft) fun r1 => F_X2_read_6 xlen xfc 10000 0 xidx r1.1 r1.2.1 xnum r1.2.2.1 xfst xlst r1.2.2.2
def F_X1_take_2 (xft : Nat → Int32) : Nat → Int32 → (Nat → Int32) → (Nat → Int32) → Option ((Nat → Int32) × (Nat → Int32))
  | 0, _, _, _ => none
  | n + 1, x2, ft, fu => if 24 ≤ x2 then (some (ft, fu)) else (Option.bind (F_X2_target xft x2) fun r2 => Option.bind (F_X1_send ft fu x2 r2) fun r3 => F_X1_take_2 xft n (x2 + 1) r3.1 r3.2)
def F_X1_take (ft : Nat → Int32) (fu : Nat → Int32) (xft : Nat → Int32) : Option ((Nat → Int32) × (Nat → Int32)) := F_X1_take_2 xft 10000 0 ft fu
def F_X3_isTicket (sold : Int32) (p1 : Int32) : Option (Int32) := if p1 < 0 then (some 0) else (if sold ≤ p1 then (some 0) else (if 12 ≤ p1 then (some 0) else (some 1)))
def F_X3_holes (sold : Int32) (fh : Nat → Int32) (p1 : Int32) : Option (Int32) := Option.bind (F_X3_isTicket sold p1) fun r1 => if r1 = 0 then (some 0) else (ck (ok p1 12) (some (fh (Int32.toNatClampNeg p1))))
def F_X3_due (sold : Int32) (fd : Nat → Int32) (p1 : Int32) : Option (Int32) := Option.bind (F_X3_isTicket sold p1) fun r1 => if r1 = 0 then (some 0) else (ck (ok p1 12) (some (fd (Int32.toNatClampNeg p1))))
def F_X3_turnedBy (sold : Int32) (fb : Nat → Int32) (p1 : Int32) : Option (Int32) := Option.bind (F_X3_isTicket sold p1) fun r1 => if r1 = 0 then (some 0) else (ck (ok p1 12) (some (fb (Int32.toNatClampNeg p1))))
def F_X3_sold (sold : Int32) : Option (Int32) := some sold
def F_X3_stacked (stk : Int32) : Option (Int32) := some stk
def F_X3_punched (pun : Int32) : Option (Int32) := some pun
def F_X3_frauds (fra : Int32) : Option (Int32) := some fra
def F_X3_turns (tur : Int32) : Option (Int32) := some tur
def F_X3_isFalse (sold : Int32) (fh : Nat → Int32) (fd : Nat → Int32) (p1 : Int32) : Option (Int32) := Option.bind (F_X3_holes sold fh p1) fun r1 => Option.bind (F_X3_due sold fd p1) fun r2 => if r1 = r2 then (some 0) else (some 1)
def F_X3_ticketsWithHole_4 (sold : Int32) (fh : Nat → Int32) : Nat → Int32 → Int32 → Int32 → Option (Int32)
  | 0, _, _, _ => none
  | n + 1, x1, x2, x3 => if 12 ≤ x3 then (some x2) else (Option.bind (F_X3_holes sold fh x3) fun r2 => Option.bind (F_X4_has r2 x1) fun r3 => if r3 = 0 then (F_X3_ticketsWithHole_4 sold fh n x1 x2 (x3 + 1)) else (Option.bind (F_X4_only x3) fun r5 => F_X3_ticketsWithHole_4 sold fh n x1 (x2 ||| r5) (x3 + 1)))
def F_X3_ticketsWithHole (sold : Int32) (fh : Nat → Int32) (p1 : Int32) : Option (Int32) := F_X3_ticketsWithHole_4 sold fh 10000 p1 0 0
def F_X3_falseTickets_4 (sold : Int32) (fh : Nat → Int32) (fd : Nat → Int32) : Nat → Int32 → Int32 → Option (Int32)
  | 0, _, _ => none
  | n + 1, x1, x2 => if 12 ≤ x2 then (some x1) else (Option.bind (F_X3_isFalse sold fh fd x2) fun r2 => if r2 = 0 then (F_X3_falseTickets_4 sold fh fd n x1 (x2 + 1)) else (F_X3_falseTickets_4 sold fh fd n (x1 + 1) (x2 + 1)))
def F_X3_falseTickets (sold : Int32) (fh : Nat → Int32) (fd : Nat → Int32) : Option (Int32) := F_X3_falseTickets_4 sold fh fd 10000 0 0
def F_X3_allHoles_4 (sold : Int32) (fh : Nat → Int32) : Nat → Int32 → Int32 → Option (Int32)
  | 0, _, _ => none
  | n + 1, x1, x2 => if 12 ≤ x2 then (some x1) else (Option.bind (F_X3_holes sold fh x2) fun r2 => Option.bind (F_J6_bitCount_0f7a4 r2) fun r3 => F_X3_allHoles_4 sold fh n (x1 + r3) (x2 + 1))
def F_X3_allHoles (sold : Int32) (fh : Nat → Int32) : Option (Int32) := F_X3_allHoles_4 sold fh 10000 0 0
def F_X3_allDue_4 (sold : Int32) (fd : Nat → Int32) : Nat → Int32 → Int32 → Option (Int32)
  | 0, _, _ => none
  | n + 1, x1, x2 => if 12 ≤ x2 then (some x1) else (Option.bind (F_X3_due sold fd x2) fun r2 => Option.bind (F_J6_bitCount_0f7a4 r2) fun r3 => F_X3_allDue_4 sold fd n (x1 + r3) (x2 + 1))
def F_X3_allDue (sold : Int32) (fd : Nat → Int32) : Option (Int32) := F_X3_allDue_4 sold fd 10000 0 0
def F_X3_ticketsWithHoles_4 (sold : Int32) (fh : Nat → Int32) : Nat → Int32 → Int32 → Int32 → Option (Int32)
  | 0, _, _, _ => none
  | n + 1, x1, x2, x3 => if 12 ≤ x3 then (some x2) else (Option.bind (F_X3_isTicket sold x3) fun r2 => if r2 = 0 then (F_X3_ticketsWithHoles_4 sold fh n x1 x2 (x3 + 1)) else (ck (ok x3 12) (if (fh (Int32.toNatClampNeg x3)) = x1 then (Option.bind (F_X4_only x3) fun r6 => F_X3_ticketsWithHoles_4 sold fh n x1 (x2 ||| r6) (x3 + 1)) else (F_X3_ticketsWithHoles_4 sold fh n x1 x2 (x3 + 1)))))
def F_X3_ticketsWithHoles (sold : Int32) (fh : Nat → Int32) (p1 : Int32) : Option (Int32) := F_X3_ticketsWithHoles_4 sold fh 10000 p1 0 0
def F_X3_kinOf_20 (sold : Int32) (ft : Nat → Int32) (fh : Nat → Int32) : Nat → Int32 → Int32 → Int32 → Int32 → Int32 → Option (Int32)
  | 0, _, _, _, _, _ => none
  | n + 1, x1, x2, x3, x4, x5 => if x4 ≤ x5 then (some x2) else (Option.bind (F_X3_ticketsWithHoles sold fh x3) fun r4 => Option.bind (F_X1_moved ft x3) fun r5 => F_X3_kinOf_20 sold ft fh n x1 (x2 ||| r4) r5 x4 (x5 + 1))
def F_X3_kinOf (sold : Int32) (ft : Nat → Int32) (fh : Nat → Int32) (p1 : Int32) : Option (Int32) := Option.bind (F_X3_holes sold fh p1) fun r1 => Option.bind (F_X1_order ft) fun r2 => F_X3_kinOf_20 sold ft fh 10000 p1 0 r1 r2 0
def F_X3_commonHoles_5 (sold : Int32) (fh : Nat → Int32) : Nat → Int32 → Int32 → Int32 → Option (Int32)
  | 0, _, _, _ => none
  | n + 1, x1, x2, x3 => if 12 ≤ x3 then (some x2) else (Option.bind (F_X4_has x1 x3) fun r2 => if r2 = 0 then (F_X3_commonHoles_5 sold fh n x1 x2 (x3 + 1)) else (Option.bind (F_X3_holes sold fh x3) fun r4 => F_X3_commonHoles_5 sold fh n x1 (x2 &&& r4) (x3 + 1)))
def F_X3_commonHoles (sold : Int32) (fh : Nat → Int32) (p1 : Int32) : Option (Int32) := F_X3_commonHoles_5 sold fh 10000 p1 16777215 0
def F_X3_lightPlaces (sold : Int32) (stk : Int32) (fh : Nat → Int32) : Option (Int32) := if stk = 0 then (some 0) else (Option.bind (F_X3_commonHoles sold fh stk) fun r2 => some r2)
def F_X3_bestPower_45 (sold : Int32) (stk : Int32) (ft : Nat → Int32) (fh : Nat → Int32) : Nat → Int32 → Int32 → Int32 → Int32 → Int32 → Int32 → Int32 → Option (Int32)
  | 0, _, _, _, _, _, _, _ => none
  | n + 1, x1, x2, x3, x4, x5, x6, x7 => if x4 ≤ x7 then (some x5) else (Option.bind (F_X1_moved ft x3) fun r7 => Option.bind (F_J6_bitCount_0f7a4 (r7 &&& x2)) fun r8 => if r8 ≤ x6 then (F_X3_bestPower_45 sold stk ft fh n x1 x2 r7 x4 x5 x6 (x7 + 1)) else (F_X3_bestPower_45 sold stk ft fh n x1 x2 r7 x4 x7 r8 (x7 + 1)))
def F_X3_bestPower (sold : Int32) (stk : Int32) (ft : Nat → Int32) (fh : Nat → Int32) (p1 : Int32) : Option (Int32) := Option.bind (F_X4_only p1) fun r1 => Option.bind (F_X3_commonHoles sold fh (stk &&& (r1 ^^^ (-1)))) fun r2 => Option.bind (F_X3_holes sold fh p1) fun r3 => Option.bind (F_X1_order ft) fun r4 => Option.bind (F_J6_bitCount_0f7a4 (r3 &&& r2)) fun r5 => F_X3_bestPower_45 sold stk ft fh 10000 p1 r2 r3 r4 0 r5 1
def F_X3_mostLight (sold : Int32) (stk : Int32) (ft : Nat → Int32) (fh : Nat → Int32) (p1 : Int32) : Option (Int32) := Option.bind (F_X4_only p1) fun r1 => Option.bind (F_X3_commonHoles sold fh (stk &&& (r1 ^^^ (-1)))) fun r2 => Option.bind (F_X3_holes sold fh p1) fun r3 => Option.bind (F_X3_bestPower sold stk ft fh p1) fun r4 => Option.bind (F_X1_movedBy ft r3 r4) fun r5 => Option.bind (F_J6_bitCount_0f7a4 (r5 &&& r2)) fun r6 => some r6
def F_X3_copy (sold : Int32) (stk : Int32) (pun : Int32) (fra : Int32) (tur : Int32) (ft : Nat → Int32) (fu : Nat → Int32) (fh : Nat → Int32) (fd : Nat → Int32) (fb : Nat → Int32) (ssold : Int32) (sstk : Int32) (spun : Int32) (sfra : Int32) (stur : Int32) (sft : Nat → Int32) (sfu : Nat → Int32) (sfh : Nat → Int32) (sfd : Nat → Int32) (sfb : Nat → Int32) : Option (Int32 × Int32 × Int32 × Int32 × Int32 × (Nat → Int32) × (Nat → Int32) × (Nat → Int32) × (Nat → Int32) × (Nat → Int32)) := Option.bind (F_X1_copy ft fu sft sfu) fun r1 => some (ssold, sstk, spun, sfra, stur, r1.1, r1.2, va_cpy sfh fh (Int32.toNatClampNeg 0) (Int32.toNatClampNeg 0) (Int32.toNatClampNeg 12), va_cpy sfd fd (Int32.toNatClampNeg 0) (Int32.toNatClampNeg 0) (Int32.toNatClampNeg 12), va_cpy sfb fb (Int32.toNatClampNeg 0) (Int32.toNatClampNeg 0) (Int32.toNatClampNeg 12))
def F_X3_add (sold : Int32) (pun : Int32) (fh : Nat → Int32) (fd : Nat → Int32) (fb : Nat → Int32) (p1 : Int32) : Option (Int32 × Int32 × Int32 × (Nat → Int32) × (Nat → Int32) × (Nat → Int32)) := if sold < 0 then (some ((-3), sold, pun, fh, fd, fb)) else (if sold < 12 then (ck (ok sold 12) (ck (ok sold 12) (ck (ok sold 12) (Option.bind (F_J6_bitCount_0f7a4 p1) fun r6 => some (sold, sold + 1, pun + r6, upd fh (Int32.toNatClampNeg sold) p1, upd fd (Int32.toNatClampNeg sold) p1, upd fb (Int32.toNatClampNeg sold) 0))))) else (some ((-3), sold, pun, fh, fd, fb)))
def F_X3_punchByRight (sold : Int32) (pun : Int32) (fh : Nat → Int32) (fd : Nat → Int32) (p1 : Int32) (p2 : Int32) : Option (Int32 × (Nat → Int32) × (Nat → Int32)) := Option.bind (F_X3_isTicket sold p1) fun r1 => if r1 = 0 then (some (pun, fh, fd)) else (ck (ok p1 12) (Option.bind (F_X4_only p2) fun r4 => ck (ok p1 12) (ck (ok p1 12) (Option.bind (F_X4_only p2) fun r7 => ck (ok p1 12) (some (pun + 1, upd fh (Int32.toNatClampNeg p1) ((fh (Int32.toNatClampNeg p1)) ||| r4), upd fd (Int32.toNatClampNeg p1) ((fd (Int32.toNatClampNeg p1)) ||| r7)))))))
def F_X3_changeByFraud (sold : Int32) (fra : Int32) (fh : Nat → Int32) (p1 : Int32) (p2 : Int32) : Option (Int32 × (Nat → Int32)) := Option.bind (F_X3_isTicket sold p1) fun r1 => if r1 = 0 then (some (fra, fh)) else (ck (ok p1 12) (Option.bind (F_X4_only p2) fun r4 => ck (ok p1 12) (some (fra + 1, upd fh (Int32.toNatClampNeg p1) ((fh (Int32.toNatClampNeg p1)) ^^^ r4)))))
def F_X3_makeRight (sold : Int32) (fh : Nat → Int32) (fd : Nat → Int32) (p1 : Int32) : Option ((Nat → Int32)) := Option.bind (F_X3_isTicket sold p1) fun r1 => if r1 = 0 then (some fh) else (ck (ok p1 12) (ck (ok p1 12) (some (upd fh (Int32.toNatClampNeg p1) (fd (Int32.toNatClampNeg p1))))))
def F_X3_changeStack (stk : Int32) (p1 : Int32) : Option (Int32) := Option.bind (F_X4_only p1) fun r1 => some (stk ^^^ r1)
def F_X3_turnTicket (sold : Int32) (tur : Int32) (ft : Nat → Int32) (fh : Nat → Int32) (fd : Nat → Int32) (fb : Nat → Int32) (p1 : Int32) (p2 : Int32) : Option (Int32 × (Nat → Int32) × (Nat → Int32) × (Nat → Int32)) := Option.bind (F_X3_isTicket sold p1) fun r1 => if r1 = 0 then (some (tur, fh, fd, fb)) else (ck (ok p1 12) (Option.bind (F_X1_movedBy ft (fh (Int32.toNatClampNeg p1)) p2) fun r4 => ck (ok p1 12) (ck (ok p1 12) (Option.bind (F_X1_movedBy ft (fd (Int32.toNatClampNeg p1)) p2) fun r7 => ck (ok p1 12) (ck (ok p1 12) (ck (ok p1 12) (some (tur + 1, upd fh (Int32.toNatClampNeg p1) r4, upd fd (Int32.toNatClampNeg p1) r7, upd fb (Int32.toNatClampNeg p1) ((fb (Int32.toNatClampNeg p1)) + p2)))))))))
def F_X3_turnStacked_2 (sold : Int32) (stk : Int32) (ft : Nat → Int32) : Nat → Int32 → Int32 → Int32 → (Nat → Int32) → (Nat → Int32) → (Nat → Int32) → Option (Int32 × (Nat → Int32) × (Nat → Int32) × (Nat → Int32))
  | 0, _, _, _, _, _, _ => none
  | n + 1, x1, x2, tur, fh, fd, fb => if 12 ≤ x2 then (some (tur, fh, fd, fb)) else (Option.bind (F_X4_has stk x2) fun r2 => if r2 = 0 then (F_X3_turnStacked_2 sold stk ft n x1 (x2 + 1) tur fh fd fb) else (Option.bind (F_X3_turnTicket sold tur ft fh fd fb x2 x1) fun r4 => F_X3_turnStacked_2 sold stk ft n x1 (x2 + 1) r4.1 r4.2.1 r4.2.2.1 r4.2.2.2))
def F_X3_turnStacked (sold : Int32) (stk : Int32) (tur : Int32) (ft : Nat → Int32) (fh : Nat → Int32) (fd : Nat → Int32) (fb : Nat → Int32) (p1 : Int32) : Option (Int32 × (Nat → Int32) × (Nat → Int32) × (Nat → Int32)) := F_X3_turnStacked_2 sold stk ft 10000 p1 0 tur fh fd fb
def F_X0_size (hsz : Int32) : Option (Int32) := some hsz
def F_X0_record (hnx : Int32) (hsz : Int32) (fr : Nat → Option Nat) (ssold : Int32) (sstk : Int32) (spun : Int32) (sfra : Int32) (stur : Int32) (sft : Nat → Int32) (sfu : Nat → Int32) (sfh : Nat → Int32) (sfd : Nat → Int32) (sfb : Nat → Int32) (rsold : Int32) (rstk : Int32) (rpun : Int32) (rfra : Int32) (rtur : Int32) (rft : Nat → Int32) (rfu : Nat → Int32) (rfh : Nat → Int32) (rfd : Nat → Int32) (rfb : Nat → Int32) (rqa : Nat) : Option (Int32 × Int32 × Int32 × Int32 × Int32 × Int32 × Int32 × (Nat → Int32) × (Nat → Int32) × (Nat → Int32) × (Nat → Int32) × (Nat → Int32)) := Option.bind (F_X0_row fr hnx) fun r1 => ck (decide (r1 = some rqa)) (Option.bind (F_X3_copy rsold rstk rpun rfra rtur rft rfu rfh rfd rfb ssold sstk spun sfra stur sft sfu sfh sfd sfb) fun r3 => if 4 ≤ (hnx + 1) then (nmd (if 4 < (hsz + 1) then 4 else (hsz + 1)) fun v5 => some (0, v5, r3.1, r3.2.1, r3.2.2.1, r3.2.2.2.1, r3.2.2.2.2.1, r3.2.2.2.2.2.1, r3.2.2.2.2.2.2.1, r3.2.2.2.2.2.2.2.1, r3.2.2.2.2.2.2.2.2.1, r3.2.2.2.2.2.2.2.2.2)) else (nmd (if 4 < (hsz + 1) then 4 else (hsz + 1)) fun v6 => some (hnx + 1, v6, r3.1, r3.2.1, r3.2.2.1, r3.2.2.2.1, r3.2.2.2.2.1, r3.2.2.2.2.2.1, r3.2.2.2.2.2.2.1, r3.2.2.2.2.2.2.2.1, r3.2.2.2.2.2.2.2.2.1, r3.2.2.2.2.2.2.2.2.2)))
def F_X0_takeLatest (hnx : Int32) (hsz : Int32) (fr : Nat → Option Nat) (ssold : Int32) (sstk : Int32) (spun : Int32) (sfra : Int32) (stur : Int32) (sft : Nat → Int32) (sfu : Nat → Int32) (sfh : Nat → Int32) (sfd : Nat → Int32) (sfb : Nat → Int32) (rsold : Int32) (rstk : Int32) (rpun : Int32) (rfra : Int32) (rtur : Int32) (rft : Nat → Int32) (rfu : Nat → Int32) (rfh : Nat → Int32) (rfd : Nat → Int32) (rfb : Nat → Int32) (rqa : Nat) : Option (Int32 × Int32 × Int32 × Int32 × Int32 × Int32 × Int32 × (Nat → Int32) × (Nat → Int32) × (Nat → Int32) × (Nat → Int32) × (Nat → Int32)) := if hnx ≤ 0 then (Option.bind (F_X0_row fr 3) fun r2 => ck (decide (r2 = some rqa)) (if hsz ≤ 0 then (some (hnx, hsz, ssold, sstk, spun, sfra, stur, sft, sfu, sfh, sfd, sfb)) else (Option.bind (F_X3_copy ssold sstk spun sfra stur sft sfu sfh sfd sfb rsold rstk rpun rfra rtur rft rfu rfh rfd rfb) fun r5 => some (3, hsz - 1, r5.1, r5.2.1, r5.2.2.1, r5.2.2.2.1, r5.2.2.2.2.1, r5.2.2.2.2.2.1, r5.2.2.2.2.2.2.1, r5.2.2.2.2.2.2.2.1, r5.2.2.2.2.2.2.2.2.1, r5.2.2.2.2.2.2.2.2.2)))) else (Option.bind (F_X0_row fr (hnx - 1)) fun r6 => ck (decide (r6 = some rqa)) (if hsz ≤ 0 then (some (hnx, hsz, ssold, sstk, spun, sfra, stur, sft, sfu, sfh, sfd, sfb)) else (Option.bind (F_X3_copy ssold sstk spun sfra stur sft sfu sfh sfd sfb rsold rstk rpun rfra rtur rft rfu rfh rfd rfb) fun r9 => some (hnx - 1, hsz - 1, r9.1, r9.2.1, r9.2.2.1, r9.2.2.2.1, r9.2.2.2.2.1, r9.2.2.2.2.2.1, r9.2.2.2.2.2.2.1, r9.2.2.2.2.2.2.2.1, r9.2.2.2.2.2.2.2.2.1, r9.2.2.2.2.2.2.2.2.2))))
def F_X4_place (sold : Int32) (ft : Nat → Int32) (fu : Nat → Int32) (fh : Nat → Int32) (p1 : Int32) (p2 : Int32) : Option (Int32) := Option.bind (F_X4_isPlace p1) fun r1 => if r1 = 0 then (some (-1)) else (if p2 = 0 then (Option.bind (F_X1_target ft p1) fun r3 => some r3) else (if p2 = 1 then (Option.bind (F_X1_source fu p1) fun r4 => some r4) else (if p2 = 2 then (Option.bind (F_X1_round ft p1) fun r5 => Option.bind (F_J6_bitCount_0f7a4 r5) fun r6 => some r6) else (if p2 = 3 then (Option.bind (F_X1_round ft p1) fun r7 => Option.bind (F_X4_lowest r7) fun r8 => some r8) else (if p2 = 4 then (Option.bind (F_X3_ticketsWithHole sold fh p1) fun r9 => some r9) else (some (-2)))))))
def F_X4_move (ft : Nat → Int32) (p1 : Int32) : Option (Int32) := if p1 = 0 then (Option.bind (F_X1_order ft) fun r1 => some r1) else (if p1 = 1 then (Option.bind (F_X1_rounds ft) fun r2 => some r2) else (if p1 = 2 then (Option.bind (F_X1_fixedPlaces ft) fun r3 => some r3) else (if p1 = 3 then (Option.bind (F_X1_longestRound ft) fun r4 => some r4) else (if p1 = 4 then (Option.bind (F_X1_isEven ft) fun r5 => Option.bind (F_X4_asNumber r5) fun r6 => some r6) else (some (-2))))))
def F_X4_power (ft : Nat → Int32) (p1 : Int32) (p2 : Int32) : Option (Int32) := Option.bind (F_X4_isPlace p1) fun r1 => if r1 = 0 then (some (-1)) else (Option.bind (F_X4_isPower p2) fun r3 => if r3 = 0 then (some (-2)) else (Option.bind (F_X1_targetBehind ft p1 p2) fun r5 => some r5))
def F_X4_ticket (sold : Int32) (stk : Int32) (ft : Nat → Int32) (fh : Nat → Int32) (fd : Nat → Int32) (fb : Nat → Int32) (p1 : Int32) (p2 : Int32) : Option (Int32) := Option.bind (F_X3_isTicket sold p1) fun r1 => if r1 = 0 then (some (-1)) else (Option.bind (F_X3_holes sold fh p1) fun r3 => Option.bind (F_X3_due sold fd p1) fun r4 => if p2 = 0 then (some r3) else (if p2 = 1 then (some r4) else (if p2 = 2 then (some (r3 &&& (r4 ^^^ (-1)))) else (if p2 = 3 then (some (r4 &&& (r3 ^^^ (-1)))) else (if p2 = 4 then (Option.bind (F_J6_bitCount_0f7a4 r3) fun r5 => some r5) else (if p2 = 5 then (Option.bind (F_X3_isFalse sold fh fd p1) fun r6 => Option.bind (F_X4_asNumber r6) fun r7 => some r7) else (if p2 = 6 then (Option.bind (F_X1_movesUntilSame ft r3) fun r8 => some r8) else (if p2 = 7 then (Option.bind (F_X3_stacked stk) fun r9 => Option.bind (F_X4_has r9 p1) fun r10 => Option.bind (F_X4_asNumber r10) fun r11 => some r11) else (if p2 = 8 then (Option.bind (F_X3_turnedBy sold fb p1) fun r12 => some r12) else (some (-2)))))))))))
def F_X4_alikeIn (sold : Int32) (ft : Nat → Int32) (fh : Nat → Int32) (p1 : Int32) (p2 : Int32) : Option (Int32) := Option.bind (F_X3_isTicket sold p1) fun r1 => if r1 = 0 then (some (-1)) else (Option.bind (F_X3_isTicket sold p2) fun r3 => if r3 = 0 then (some (-1)) else (Option.bind (F_X3_holes sold fh p1) fun r5 => Option.bind (F_X3_holes sold fh p2) fun r6 => Option.bind (F_X1_movesUntilAlike ft r5 r6) fun r7 => some r7))
def F_X4_meetsIn (sold : Int32) (ft : Nat → Int32) (fh : Nat → Int32) (p1 : Int32) (p2 : Int32) : Option (Int32) := Option.bind (F_X3_isTicket sold p1) fun r1 => if r1 = 0 then (some (-1)) else (Option.bind (F_X3_isTicket sold p2) fun r3 => if r3 = 0 then (some (-1)) else (Option.bind (F_X3_holes sold fh p1) fun r5 => Option.bind (F_X3_holes sold fh p2) fun r6 => Option.bind (F_X1_movesUntilMeeting ft r5 r6) fun r7 => some r7))
def F_X4_reason (sold : Int32) (ft : Nat → Int32) (fh : Nat → Int32) (p1 : Int32) (p2 : Int32) : Option (Int32) := Option.bind (F_X3_isTicket sold p1) fun r1 => if r1 = 0 then (some (-1)) else (Option.bind (F_X3_isTicket sold p2) fun r3 => if r3 = 0 then (some (-1)) else (Option.bind (F_X3_holes sold fh p1) fun r5 => Option.bind (F_X3_holes sold fh p2) fun r6 => Option.bind (F_J6_bitCount_0f7a4 r5) fun r7 => Option.bind (F_J6_bitCount_0f7a4 r6) fun r8 => if r7 = r8 then (Option.bind (F_X1_hasLikeNumbersInRounds ft r5 r6) fun r10 => if r10 = 0 then (some 2) else (Option.bind (F_X1_movesUntilAlike ft r5 r6) fun r12 => if r12 = (-5) then (some 3) else (some 0))) else (some 1)))
def F_X4_kin (sold : Int32) (ft : Nat → Int32) (fh : Nat → Int32) (p1 : Int32) : Option (Int32) := Option.bind (F_X3_isTicket sold p1) fun r1 => if r1 = 0 then (some (-1)) else (Option.bind (F_X3_kinOf sold ft fh p1) fun r3 => some r3)
def F_X4_light (sold : Int32) (stk : Int32) (fh : Nat → Int32) : Option (Int32) := Option.bind (F_X3_lightPlaces sold stk fh) fun r1 => some r1
def F_X4_bestTurn (sold : Int32) (stk : Int32) (ft : Nat → Int32) (fh : Nat → Int32) (p1 : Int32) (p2 : Int32) : Option (Int32) := Option.bind (F_X3_isTicket sold p1) fun r1 => if r1 = 0 then (some (-1)) else (if p2 < 0 then (some (-2)) else (if p2 ≤ 1 then (Option.bind (F_X3_stacked stk) fun r5 => Option.bind (F_X4_has r5 p1) fun r6 => if r6 = 0 then (some (-4)) else (if p2 = 0 then (Option.bind (F_X3_bestPower sold stk ft fh p1) fun r10 => some r10) else (Option.bind (F_X3_mostLight sold stk ft fh p1) fun r9 => some r9))) else (some (-2))))
def F_X4_count (sold : Int32) (stk : Int32) (pun : Int32) (fra : Int32) (tur : Int32) (fh : Nat → Int32) (fd : Nat → Int32) (hsz : Int32) (xlen : Int32) (p1 : Int32) : Option (Int32) := if p1 = 0 then (Option.bind (F_X3_sold sold) fun r1 => some r1) else (if p1 = 1 then (Option.bind (F_X3_stacked stk) fun r2 => Option.bind (F_J6_bitCount_0f7a4 r2) fun r3 => some r3) else (if p1 = 2 then (Option.bind (F_X3_falseTickets sold fh fd) fun r4 => some r4) else (if p1 = 3 then (Option.bind (F_X3_allHoles sold fh) fun r5 => some r5) else (if p1 = 4 then (Option.bind (F_X3_allDue sold fd) fun r6 => some r6) else (if p1 = 5 then (Option.bind (F_X3_lightPlaces sold stk fh) fun r7 => Option.bind (F_J6_bitCount_0f7a4 r7) fun r8 => some r8) else (if p1 = 6 then (Option.bind (F_X3_punched pun) fun r9 => some r9) else (if p1 = 7 then (Option.bind (F_X3_frauds fra) fun r10 => some r10) else (if p1 = 8 then (Option.bind (F_X3_turns tur) fun r11 => some r11) else (if p1 = 9 then (Option.bind (F_X0_size hsz) fun r12 => some r12) else (if p1 = 10 then (Option.bind (F_X2_length xlen) fun r13 => some r13) else (some (-2))))))))))))
def F_X4_exchange (sold : Int32) (stk : Int32) (pun : Int32) (fra : Int32) (tur : Int32) (ft : Nat → Int32) (fu : Nat → Int32) (fh : Nat → Int32) (fd : Nat → Int32) (fb : Nat → Int32) (hnx : Int32) (hsz : Int32) (fr : Nat → Option Nat) (rsold : Int32) (rstk : Int32) (rpun : Int32) (rfra : Int32) (rtur : Int32) (rft : Nat → Int32) (rfu : Nat → Int32) (rfh : Nat → Int32) (rfd : Nat → Int32) (rfb : Nat → Int32) (rqa : Nat) (p1 : Int32) (p2 : Int32) : Option (Int32 × (Nat → Int32) × (Nat → Int32) × Int32 × Int32 × Int32 × Int32 × Int32 × Int32 × Int32 × (Nat → Int32) × (Nat → Int32) × (Nat → Int32) × (Nat → Int32) × (Nat → Int32)) := Option.bind (F_X4_isPlace p1) fun r1 => if r1 = 0 then (some ((-1), ft, fu, hnx, hsz, rsold, rstk, rpun, rfra, rtur, rft, rfu, rfh, rfd, rfb)) else (Option.bind (F_X4_isPlace p2) fun r3 => if r3 = 0 then (some ((-1), ft, fu, hnx, hsz, rsold, rstk, rpun, rfra, rtur, rft, rfu, rfh, rfd, rfb)) else (if p1 = p2 then (some ((-5), ft, fu, hnx, hsz, rsold, rstk, rpun, rfra, rtur, rft, rfu, rfh, rfd, rfb)) else (Option.bind (F_X0_record hnx hsz fr sold stk pun fra tur ft fu fh fd fb rsold rstk rpun rfra rtur rft rfu rfh rfd rfb rqa) fun r6 => Option.bind (F_X1_swapTargets ft fu p1 p2) fun r7 => Option.bind (F_X1_order r7.1) fun r8 => some (r8, r7.1, r7.2, r6.1, r6.2.1, r6.2.2.1, r6.2.2.2.1, r6.2.2.2.2.1, r6.2.2.2.2.2.1, r6.2.2.2.2.2.2.1, r6.2.2.2.2.2.2.2.1, r6.2.2.2.2.2.2.2.2.1, r6.2.2.2.2.2.2.2.2.2.1, r6.2.2.2.2.2.2.2.2.2.2.1, r6.2.2.2.2.2.2.2.2.2.2.2))))
def F_X4_sell (sold : Int32) (stk : Int32) (pun : Int32) (fra : Int32) (tur : Int32) (ft : Nat → Int32) (fu : Nat → Int32) (fh : Nat → Int32) (fd : Nat → Int32) (fb : Nat → Int32) (hnx : Int32) (hsz : Int32) (fr : Nat → Option Nat) (rsold : Int32) (rstk : Int32) (rpun : Int32) (rfra : Int32) (rtur : Int32) (rft : Nat → Int32) (rfu : Nat → Int32) (rfh : Nat → Int32) (rfd : Nat → Int32) (rfb : Nat → Int32) (rqa : Nat) (p1 : Int32) : Option (Int32 × Int32 × Int32 × (Nat → Int32) × (Nat → Int32) × (Nat → Int32) × Int32 × Int32 × Int32 × Int32 × Int32 × Int32 × Int32 × (Nat → Int32) × (Nat → Int32) × (Nat → Int32) × (Nat → Int32) × (Nat → Int32)) := if p1 < 0 then (some ((-2), sold, pun, fh, fd, fb, hnx, hsz, rsold, rstk, rpun, rfra, rtur, rft, rfu, rfh, rfd, rfb)) else (if p1 ≤ 16777215 then (Option.bind (F_X3_sold sold) fun r3 => if r3 < 12 then (Option.bind (F_X0_record hnx hsz fr sold stk pun fra tur ft fu fh fd fb rsold rstk rpun rfra rtur rft rfu rfh rfd rfb rqa) fun r5 => Option.bind (F_X3_add sold pun fh fd fb p1) fun r6 => some (r6.1, r6.2.1, r6.2.2.1, r6.2.2.2.1, r6.2.2.2.2.1, r6.2.2.2.2.2, r5.1, r5.2.1, r5.2.2.1, r5.2.2.2.1, r5.2.2.2.2.1, r5.2.2.2.2.2.1, r5.2.2.2.2.2.2.1, r5.2.2.2.2.2.2.2.1, r5.2.2.2.2.2.2.2.2.1, r5.2.2.2.2.2.2.2.2.2.1, r5.2.2.2.2.2.2.2.2.2.2.1, r5.2.2.2.2.2.2.2.2.2.2.2)) else (some ((-3), sold, pun, fh, fd, fb, hnx, hsz, rsold, rstk, rpun, rfra, rtur, rft, rfu, rfh, rfd, rfb))) else (some ((-2), sold, pun, fh, fd, fb, hnx, hsz, rsold, rstk, rpun, rfra, rtur, rft, rfu, rfh, rfd, rfb)))
def F_X4_punch (sold : Int32) (stk : Int32) (pun : Int32) (fra : Int32) (tur : Int32) (ft : Nat → Int32) (fu : Nat → Int32) (fh : Nat → Int32) (fd : Nat → Int32) (fb : Nat → Int32) (hnx : Int32) (hsz : Int32) (fr : Nat → Option Nat) (rsold : Int32) (rstk : Int32) (rpun : Int32) (rfra : Int32) (rtur : Int32) (rft : Nat → Int32) (rfu : Nat → Int32) (rfh : Nat → Int32) (rfd : Nat → Int32) (rfb : Nat → Int32) (rqa : Nat) (p1 : Int32) (p2 : Int32) : Option (Int32 × Int32 × (Nat → Int32) × (Nat → Int32) × Int32 × Int32 × Int32 × Int32 × Int32 × Int32 × Int32 × (Nat → Int32) × (Nat → Int32) × (Nat → Int32) × (Nat → Int32) × (Nat → Int32)) := Option.bind (F_X3_isTicket sold p1) fun r1 => if r1 = 0 then (some ((-1), pun, fh, fd, hnx, hsz, rsold, rstk, rpun, rfra, rtur, rft, rfu, rfh, rfd, rfb)) else (Option.bind (F_X4_isPlace p2) fun r3 => if r3 = 0 then (some ((-1), pun, fh, fd, hnx, hsz, rsold, rstk, rpun, rfra, rtur, rft, rfu, rfh, rfd, rfb)) else (Option.bind (F_X3_holes sold fh p1) fun r5 => Option.bind (F_X3_due sold fd p1) fun r6 => Option.bind (F_X4_has (r5 &&& r6) p2) fun r7 => if r7 = 0 then (Option.bind (F_X0_record hnx hsz fr sold stk pun fra tur ft fu fh fd fb rsold rstk rpun rfra rtur rft rfu rfh rfd rfb rqa) fun r9 => Option.bind (F_X3_punchByRight sold pun fh fd p1 p2) fun r10 => Option.bind (F_X3_holes sold r10.2.1 p1) fun r11 => Option.bind (F_J6_bitCount_0f7a4 r11) fun r12 => some (r12, r10.1, r10.2.1, r10.2.2, r9.1, r9.2.1, r9.2.2.1, r9.2.2.2.1, r9.2.2.2.2.1, r9.2.2.2.2.2.1, r9.2.2.2.2.2.2.1, r9.2.2.2.2.2.2.2.1, r9.2.2.2.2.2.2.2.2.1, r9.2.2.2.2.2.2.2.2.2.1, r9.2.2.2.2.2.2.2.2.2.2.1, r9.2.2.2.2.2.2.2.2.2.2.2)) else (some ((-5), pun, fh, fd, hnx, hsz, rsold, rstk, rpun, rfra, rtur, rft, rfu, rfh, rfd, rfb))))
def F_X4_forge (sold : Int32) (stk : Int32) (pun : Int32) (fra : Int32) (tur : Int32) (ft : Nat → Int32) (fu : Nat → Int32) (fh : Nat → Int32) (fd : Nat → Int32) (fb : Nat → Int32) (hnx : Int32) (hsz : Int32) (fr : Nat → Option Nat) (rsold : Int32) (rstk : Int32) (rpun : Int32) (rfra : Int32) (rtur : Int32) (rft : Nat → Int32) (rfu : Nat → Int32) (rfh : Nat → Int32) (rfd : Nat → Int32) (rfb : Nat → Int32) (rqa : Nat) (p1 : Int32) (p2 : Int32) (p3 : Int32) : Option (Int32 × Int32 × (Nat → Int32) × Int32 × Int32 × Int32 × Int32 × Int32 × Int32 × Int32 × (Nat → Int32) × (Nat → Int32) × (Nat → Int32) × (Nat → Int32) × (Nat → Int32)) := Option.bind (F_X3_isTicket sold p1) fun r1 => if r1 = 0 then (some ((-1), fra, fh, hnx, hsz, rsold, rstk, rpun, rfra, rtur, rft, rfu, rfh, rfd, rfb)) else (Option.bind (F_X4_isPlace p2) fun r3 => if r3 = 0 then (some ((-1), fra, fh, hnx, hsz, rsold, rstk, rpun, rfra, rtur, rft, rfu, rfh, rfd, rfb)) else (Option.bind (F_X3_holes sold fh p1) fun r5 => Option.bind (F_X4_has r5 p2) fun r6 => if r6 = p3 then (some ((-5), fra, fh, hnx, hsz, rsold, rstk, rpun, rfra, rtur, rft, rfu, rfh, rfd, rfb)) else (Option.bind (F_X0_record hnx hsz fr sold stk pun fra tur ft fu fh fd fb rsold rstk rpun rfra rtur rft rfu rfh rfd rfb rqa) fun r8 => Option.bind (F_X3_changeByFraud sold fra fh p1 p2) fun r9 => Option.bind (F_X3_isFalse sold r9.2 fd p1) fun r10 => Option.bind (F_X4_asNumber r10) fun r11 => some (r11, r9.1, r9.2, r8.1, r8.2.1, r8.2.2.1, r8.2.2.2.1, r8.2.2.2.2.1, r8.2.2.2.2.2.1, r8.2.2.2.2.2.2.1, r8.2.2.2.2.2.2.2.1, r8.2.2.2.2.2.2.2.2.1, r8.2.2.2.2.2.2.2.2.2.1, r8.2.2.2.2.2.2.2.2.2.2.1, r8.2.2.2.2.2.2.2.2.2.2.2))))
def F_X4_mend (sold : Int32) (stk : Int32) (pun : Int32) (fra : Int32) (tur : Int32) (ft : Nat → Int32) (fu : Nat → Int32) (fh : Nat → Int32) (fd : Nat → Int32) (fb : Nat → Int32) (hnx : Int32) (hsz : Int32) (fr : Nat → Option Nat) (rsold : Int32) (rstk : Int32) (rpun : Int32) (rfra : Int32) (rtur : Int32) (rft : Nat → Int32) (rfu : Nat → Int32) (rfh : Nat → Int32) (rfd : Nat → Int32) (rfb : Nat → Int32) (rqa : Nat) (p1 : Int32) : Option (Int32 × (Nat → Int32) × Int32 × Int32 × Int32 × Int32 × Int32 × Int32 × Int32 × (Nat → Int32) × (Nat → Int32) × (Nat → Int32) × (Nat → Int32) × (Nat → Int32)) := Option.bind (F_X3_isTicket sold p1) fun r1 => if r1 = 0 then (some ((-1), fh, hnx, hsz, rsold, rstk, rpun, rfra, rtur, rft, rfu, rfh, rfd, rfb)) else (Option.bind (F_X3_isFalse sold fh fd p1) fun r3 => if r3 = 0 then (some ((-5), fh, hnx, hsz, rsold, rstk, rpun, rfra, rtur, rft, rfu, rfh, rfd, rfb)) else (Option.bind (F_X3_holes sold fh p1) fun r5 => Option.bind (F_X3_due sold fd p1) fun r6 => Option.bind (F_J6_bitCount_0f7a4 (r5 ^^^ r6)) fun r7 => Option.bind (F_X0_record hnx hsz fr sold stk pun fra tur ft fu fh fd fb rsold rstk rpun rfra rtur rft rfu rfh rfd rfb rqa) fun r8 => Option.bind (F_X3_makeRight sold fh fd p1) fun r9 => some (r7, r9, r8.1, r8.2.1, r8.2.2.1, r8.2.2.2.1, r8.2.2.2.2.1, r8.2.2.2.2.2.1, r8.2.2.2.2.2.2.1, r8.2.2.2.2.2.2.2.1, r8.2.2.2.2.2.2.2.2.1, r8.2.2.2.2.2.2.2.2.2.1, r8.2.2.2.2.2.2.2.2.2.2.1, r8.2.2.2.2.2.2.2.2.2.2.2)))
def F_X4_turn (sold : Int32) (stk : Int32) (pun : Int32) (fra : Int32) (tur : Int32) (ft : Nat → Int32) (fu : Nat → Int32) (fh : Nat → Int32) (fd : Nat → Int32) (fb : Nat → Int32) (hnx : Int32) (hsz : Int32) (fr : Nat → Option Nat) (rsold : Int32) (rstk : Int32) (rpun : Int32) (rfra : Int32) (rtur : Int32) (rft : Nat → Int32) (rfu : Nat → Int32) (rfh : Nat → Int32) (rfd : Nat → Int32) (rfb : Nat → Int32) (rqa : Nat) (p1 : Int32) (p2 : Int32) : Option (Int32 × Int32 × (Nat → Int32) × (Nat → Int32) × (Nat → Int32) × Int32 × Int32 × Int32 × Int32 × Int32 × Int32 × Int32 × (Nat → Int32) × (Nat → Int32) × (Nat → Int32) × (Nat → Int32) × (Nat → Int32)) := Option.bind (F_X3_isTicket sold p1) fun r1 => if r1 = 0 then (some ((-1), tur, fh, fd, fb, hnx, hsz, rsold, rstk, rpun, rfra, rtur, rft, rfu, rfh, rfd, rfb)) else (Option.bind (F_X4_isPower p2) fun r3 => if r3 = 0 then (some ((-2), tur, fh, fd, fb, hnx, hsz, rsold, rstk, rpun, rfra, rtur, rft, rfu, rfh, rfd, rfb)) else (Option.bind (F_X1_leavesAll ft p2) fun r5 => if r5 = 0 then (Option.bind (F_X0_record hnx hsz fr sold stk pun fra tur ft fu fh fd fb rsold rstk rpun rfra rtur rft rfu rfh rfd rfb rqa) fun r7 => Option.bind (F_X3_turnTicket sold tur ft fh fd fb p1 p2) fun r8 => Option.bind (F_X3_holes sold r8.2.1 p1) fun r9 => some (r9, r8.1, r8.2.1, r8.2.2.1, r8.2.2.2, r7.1, r7.2.1, r7.2.2.1, r7.2.2.2.1, r7.2.2.2.2.1, r7.2.2.2.2.2.1, r7.2.2.2.2.2.2.1, r7.2.2.2.2.2.2.2.1, r7.2.2.2.2.2.2.2.2.1, r7.2.2.2.2.2.2.2.2.2.1, r7.2.2.2.2.2.2.2.2.2.2.1, r7.2.2.2.2.2.2.2.2.2.2.2)) else (some ((-5), tur, fh, fd, fb, hnx, hsz, rsold, rstk, rpun, rfra, rtur, rft, rfu, rfh, rfd, rfb))))
def F_X4_stack (sold : Int32) (stk : Int32) (pun : Int32) (fra : Int32) (tur : Int32) (ft : Nat → Int32) (fu : Nat → Int32) (fh : Nat → Int32) (fd : Nat → Int32) (fb : Nat → Int32) (hnx : Int32) (hsz : Int32) (fr : Nat → Option Nat) (rsold : Int32) (rstk : Int32) (rpun : Int32) (rfra : Int32) (rtur : Int32) (rft : Nat → Int32) (rfu : Nat → Int32) (rfh : Nat → Int32) (rfd : Nat → Int32) (rfb : Nat → Int32) (rqa : Nat) (p1 : Int32) (p2 : Int32) : Option (Int32 × Int32 × Int32 × Int32 × Int32 × Int32 × Int32 × Int32 × Int32 × (Nat → Int32) × (Nat → Int32) × (Nat → Int32) × (Nat → Int32) × (Nat → Int32)) := Option.bind (F_X3_isTicket sold p1) fun r1 => if r1 = 0 then (some ((-1), stk, hnx, hsz, rsold, rstk, rpun, rfra, rtur, rft, rfu, rfh, rfd, rfb)) else (Option.bind (F_X3_stacked stk) fun r3 => Option.bind (F_X4_has r3 p1) fun r4 => if r4 = p2 then (some ((-5), stk, hnx, hsz, rsold, rstk, rpun, rfra, rtur, rft, rfu, rfh, rfd, rfb)) else (Option.bind (F_X0_record hnx hsz fr sold stk pun fra tur ft fu fh fd fb rsold rstk rpun rfra rtur rft rfu rfh rfd rfb rqa) fun r6 => Option.bind (F_X3_changeStack stk p1) fun r7 => Option.bind (F_X3_stacked r7) fun r8 => Option.bind (F_J6_bitCount_0f7a4 r8) fun r9 => some (r9, r7, r6.1, r6.2.1, r6.2.2.1, r6.2.2.2.1, r6.2.2.2.2.1, r6.2.2.2.2.2.1, r6.2.2.2.2.2.2.1, r6.2.2.2.2.2.2.2.1, r6.2.2.2.2.2.2.2.2.1, r6.2.2.2.2.2.2.2.2.2.1, r6.2.2.2.2.2.2.2.2.2.2.1, r6.2.2.2.2.2.2.2.2.2.2.2)))
def F_X4_turnStack (sold : Int32) (stk : Int32) (pun : Int32) (fra : Int32) (tur : Int32) (ft : Nat → Int32) (fu : Nat → Int32) (fh : Nat → Int32) (fd : Nat → Int32) (fb : Nat → Int32) (hnx : Int32) (hsz : Int32) (fr : Nat → Option Nat) (rsold : Int32) (rstk : Int32) (rpun : Int32) (rfra : Int32) (rtur : Int32) (rft : Nat → Int32) (rfu : Nat → Int32) (rfh : Nat → Int32) (rfd : Nat → Int32) (rfb : Nat → Int32) (rqa : Nat) (p1 : Int32) : Option (Int32 × Int32 × (Nat → Int32) × (Nat → Int32) × (Nat → Int32) × Int32 × Int32 × Int32 × Int32 × Int32 × Int32 × Int32 × (Nat → Int32) × (Nat → Int32) × (Nat → Int32) × (Nat → Int32) × (Nat → Int32)) := Option.bind (F_X4_isPower p1) fun r1 => if r1 = 0 then (some ((-2), tur, fh, fd, fb, hnx, hsz, rsold, rstk, rpun, rfra, rtur, rft, rfu, rfh, rfd, rfb)) else (Option.bind (F_X3_stacked stk) fun r3 => if r3 = 0 then (some ((-5), tur, fh, fd, fb, hnx, hsz, rsold, rstk, rpun, rfra, rtur, rft, rfu, rfh, rfd, rfb)) else (Option.bind (F_X1_leavesAll ft p1) fun r5 => if r5 = 0 then (Option.bind (F_X0_record hnx hsz fr sold stk pun fra tur ft fu fh fd fb rsold rstk rpun rfra rtur rft rfu rfh rfd rfb rqa) fun r7 => Option.bind (F_X3_turnStacked sold stk tur ft fh fd fb p1) fun r8 => Option.bind (F_X3_stacked stk) fun r9 => Option.bind (F_J6_bitCount_0f7a4 r9) fun r10 => some (r10, r8.1, r8.2.1, r8.2.2.1, r8.2.2.2, r7.1, r7.2.1, r7.2.2.1, r7.2.2.2.1, r7.2.2.2.2.1, r7.2.2.2.2.2.1, r7.2.2.2.2.2.2.1, r7.2.2.2.2.2.2.2.1, r7.2.2.2.2.2.2.2.2.1, r7.2.2.2.2.2.2.2.2.2.1, r7.2.2.2.2.2.2.2.2.2.2.1, r7.2.2.2.2.2.2.2.2.2.2.2)) else (some ((-5), tur, fh, fd, fb, hnx, hsz, rsold, rstk, rpun, rfra, rtur, rft, rfu, rfh, rfd, rfb))))
def F_X4_undo (sold : Int32) (stk : Int32) (pun : Int32) (fra : Int32) (tur : Int32) (ft : Nat → Int32) (fu : Nat → Int32) (fh : Nat → Int32) (fd : Nat → Int32) (fb : Nat → Int32) (hnx : Int32) (hsz : Int32) (fr : Nat → Option Nat) (rsold : Int32) (rstk : Int32) (rpun : Int32) (rfra : Int32) (rtur : Int32) (rft : Nat → Int32) (rfu : Nat → Int32) (rfh : Nat → Int32) (rfd : Nat → Int32) (rfb : Nat → Int32) (rqa : Nat) : Option (Int32 × Int32 × Int32 × Int32 × Int32 × Int32 × (Nat → Int32) × (Nat → Int32) × (Nat → Int32) × (Nat → Int32) × (Nat → Int32) × Int32 × Int32) := Option.bind (F_X0_size hsz) fun r1 => if r1 = 0 then (some ((-5), sold, stk, pun, fra, tur, ft, fu, fh, fd, fb, hnx, hsz)) else (Option.bind (F_X0_takeLatest hnx hsz fr sold stk pun fra tur ft fu fh fd fb rsold rstk rpun rfra rtur rft rfu rfh rfd rfb rqa) fun r3 => Option.bind (F_X0_size r3.2.1) fun r4 => some (r4, r3.2.2.1, r3.2.2.2.1, r3.2.2.2.2.1, r3.2.2.2.2.2.1, r3.2.2.2.2.2.2.1, r3.2.2.2.2.2.2.2.1, r3.2.2.2.2.2.2.2.2.1, r3.2.2.2.2.2.2.2.2.2.1, r3.2.2.2.2.2.2.2.2.2.2.1, r3.2.2.2.2.2.2.2.2.2.2.2, r3.1, r3.2.1))
def F_X4_reverse (sold : Int32) (stk : Int32) (pun : Int32) (fra : Int32) (tur : Int32) (ft : Nat → Int32) (fu : Nat → Int32) (fh : Nat → Int32) (fd : Nat → Int32) (fb : Nat → Int32) (hnx : Int32) (hsz : Int32) (fr : Nat → Option Nat) (rsold : Int32) (rstk : Int32) (rpun : Int32) (rfra : Int32) (rtur : Int32) (rft : Nat → Int32) (rfu : Nat → Int32) (rfh : Nat → Int32) (rfd : Nat → Int32) (rfb : Nat → Int32) (rqa : Nat) (qt : Nat) (qu : Nat) : Option (Int32 × Int32 × Int32 × Int32 × Int32 × Int32 × Int32 × Int32 × (Nat → Int32) × (Nat → Int32) × (Nat → Int32) × (Nat → Int32) × (Nat → Int32) × Nat × Nat) := Option.bind (F_X1_order ft) fun r1 => if 2 < r1 then (Option.bind (F_X0_record hnx hsz fr sold stk pun fra tur ft fu fh fd fb rsold rstk rpun rfra rtur rft rfu rfh rfd rfb rqa) fun r3 => Option.bind (F_X1_turnBack qt qu) fun r4 => some (r1, r3.1, r3.2.1, r3.2.2.1, r3.2.2.2.1, r3.2.2.2.2.1, r3.2.2.2.2.2.1, r3.2.2.2.2.2.2.1, r3.2.2.2.2.2.2.2.1, r3.2.2.2.2.2.2.2.2.1, r3.2.2.2.2.2.2.2.2.2.1, r3.2.2.2.2.2.2.2.2.2.2.1, r3.2.2.2.2.2.2.2.2.2.2.2, r4.1, r4.2)) else (some ((-5), hnx, hsz, rsold, rstk, rpun, rfra, rtur, rft, rfu, rfh, rfd, rfb, qt, qu))
def F_X4_readMove (sold : Int32) (stk : Int32) (pun : Int32) (fra : Int32) (tur : Int32) (ft : Nat → Int32) (fu : Nat → Int32) (fh : Nat → Int32) (fd : Nat → Int32) (fb : Nat → Int32) (hnx : Int32) (hsz : Int32) (fr : Nat → Option Nat) (xlen : Int32) (xidx : Int32) (xknd : Int32) (xawt : Int32) (xnum : Int32) (xcam : Int32) (xfst : Int32) (xlst : Int32) (xfc : Nat → Int32) (xft : Nat → Int32) (rsold : Int32) (rstk : Int32) (rpun : Int32) (rfra : Int32) (rtur : Int32) (rft : Nat → Int32) (rfu : Nat → Int32) (rfh : Nat → Int32) (rfd : Nat → Int32) (rfb : Nat → Int32) (rqa : Nat) : Option (Int32 × (Nat → Int32) × (Nat → Int32) × Int32 × Int32 × Int32 × Int32 × Int32 × Int32 × Int32 × Int32 × Int32 × (Nat → Int32) × Int32 × Int32 × Int32 × Int32 × Int32 × (Nat → Int32) × (Nat → Int32) × (Nat → Int32) × (Nat → Int32) × (Nat → Int32)) := Option.bind (F_X2_read xlen xidx xknd xawt xnum xcam xfst xlst xfc xft) fun r1 => Option.bind (F_X2_faultKind r1.2.1) fun r2 => if r2 = 0 then (Option.bind (F_X0_record hnx hsz fr sold stk pun fra tur ft fu fh fd fb rsold rstk rpun rfra rtur rft rfu rfh rfd rfb rqa) fun r4 => Option.bind (F_X1_take ft fu r1.2.2.2.2.2.2.2) fun r5 => Option.bind (F_X1_order r5.1) fun r6 => some (r6, r5.1, r5.2, r4.1, r4.2.1, r1.1, r1.2.1, r1.2.2.1, r1.2.2.2.1, r1.2.2.2.2.1, r1.2.2.2.2.2.1, r1.2.2.2.2.2.2.1, r1.2.2.2.2.2.2.2, r4.2.2.1, r4.2.2.2.1, r4.2.2.2.2.1, r4.2.2.2.2.2.1, r4.2.2.2.2.2.2.1, r4.2.2.2.2.2.2.2.1, r4.2.2.2.2.2.2.2.2.1, r4.2.2.2.2.2.2.2.2.2.1, r4.2.2.2.2.2.2.2.2.2.2.1, r4.2.2.2.2.2.2.2.2.2.2.2)) else (Option.bind (F_X2_faultIndex r1.1) fun r7 => some ((-100 : Int32) - r7, ft, fu, hnx, hsz, r1.1, r1.2.1, r1.2.2.1, r1.2.2.2.1, r1.2.2.2.2.1, r1.2.2.2.2.2.1, r1.2.2.2.2.2.2.1, r1.2.2.2.2.2.2.2, rsold, rstk, rpun, rfra, rtur, rft, rfu, rfh, rfd, rfb))
def F_X4_type (xlen : Int32) (xfc : Nat → Int32) (p1 : Int32) : Option (Int32 × Int32 × (Nat → Int32)) := Option.bind (F_X2_length xlen) fun r1 => if r1 < 80 then (Option.bind (F_X2_append xlen xfc p1) fun r3 => Option.bind (F_X2_length r3.1) fun r4 => some (r4, r3.1, r3.2)) else (some ((-3), xlen, xfc))
def F_X4_clearText (xlen : Int32) : Option (Int32 × Int32) := Option.bind (F_X2_length xlen) fun r1 => Option.bind (F_X2_empty xlen) fun r2 => some (r1, r2)
def F_X4_fault (xlen : Int32) (xidx : Int32) (xknd : Int32) (xawt : Int32) (xnum : Int32) (xcam : Int32) (xfst : Int32) (xlst : Int32) (xfc : Nat → Int32) (xft : Nat → Int32) (p1 : Int32) : Option (Int32 × Int32 × Int32 × Int32 × Int32 × Int32 × Int32 × Int32 × (Nat → Int32)) := if p1 < 0 then (some ((-2), xidx, xknd, xawt, xnum, xcam, xfst, xlst, xft)) else (if p1 ≤ 1 then (Option.bind (F_X2_read xlen xidx xknd xawt xnum xcam xfst xlst xfc xft) fun r3 => Option.bind (F_X2_faultKind r3.2.1) fun r4 => if r4 = 0 then (some ((-5), r3.1, r3.2.1, r3.2.2.1, r3.2.2.2.1, r3.2.2.2.2.1, r3.2.2.2.2.2.1, r3.2.2.2.2.2.2.1, r3.2.2.2.2.2.2.2)) else (if p1 = 0 then (Option.bind (F_X2_faultIndex r3.1) fun r8 => some (r8, r3.1, r3.2.1, r3.2.2.1, r3.2.2.2.1, r3.2.2.2.2.1, r3.2.2.2.2.2.1, r3.2.2.2.2.2.2.1, r3.2.2.2.2.2.2.2)) else (Option.bind (F_X2_faultKind r3.2.1) fun r7 => some (r7, r3.1, r3.2.1, r3.2.2.1, r3.2.2.2.1, r3.2.2.2.2.1, r3.2.2.2.2.2.1, r3.2.2.2.2.2.2.1, r3.2.2.2.2.2.2.2)))) else (some ((-2), xidx, xknd, xawt, xnum, xcam, xfst, xlst, xft)))
def F_X4_keep (isk : Int32) (sold : Int32) (stk : Int32) (pun : Int32) (fra : Int32) (tur : Int32) (ft : Nat → Int32) (fu : Nat → Int32) (fh : Nat → Int32) (fd : Nat → Int32) (fb : Nat → Int32) (ksold : Int32) (kstk : Int32) (kpun : Int32) (kfra : Int32) (ktur : Int32) (kft : Nat → Int32) (kfu : Nat → Int32) (kfh : Nat → Int32) (kfd : Nat → Int32) (kfb : Nat → Int32) : Option (Int32 × Int32 × Int32 × Int32 × Int32 × Int32 × Int32 × (Nat → Int32) × (Nat → Int32) × (Nat → Int32) × (Nat → Int32) × (Nat → Int32)) := Option.bind (F_X3_copy ksold kstk kpun kfra ktur kft kfu kfh kfd kfb sold stk pun fra tur ft fu fh fd fb) fun r1 => Option.bind (F_X3_sold sold) fun r2 => some (r2, 1, r1.1, r1.2.1, r1.2.2.1, r1.2.2.2.1, r1.2.2.2.2.1, r1.2.2.2.2.2.1, r1.2.2.2.2.2.2.1, r1.2.2.2.2.2.2.2.1, r1.2.2.2.2.2.2.2.2.1, r1.2.2.2.2.2.2.2.2.2)
def F_X4_restore (isk : Int32) (sold : Int32) (stk : Int32) (pun : Int32) (fra : Int32) (tur : Int32) (ft : Nat → Int32) (fu : Nat → Int32) (fh : Nat → Int32) (fd : Nat → Int32) (fb : Nat → Int32) (ksold : Int32) (kstk : Int32) (kpun : Int32) (kfra : Int32) (ktur : Int32) (kft : Nat → Int32) (kfu : Nat → Int32) (kfh : Nat → Int32) (kfd : Nat → Int32) (kfb : Nat → Int32) (hnx : Int32) (hsz : Int32) (fr : Nat → Option Nat) (rsold : Int32) (rstk : Int32) (rpun : Int32) (rfra : Int32) (rtur : Int32) (rft : Nat → Int32) (rfu : Nat → Int32) (rfh : Nat → Int32) (rfd : Nat → Int32) (rfb : Nat → Int32) (rqa : Nat) : Option (Int32 × Int32 × Int32 × Int32 × Int32 × Int32 × (Nat → Int32) × (Nat → Int32) × (Nat → Int32) × (Nat → Int32) × (Nat → Int32) × Int32 × Int32 × Int32 × Int32 × Int32 × Int32 × Int32 × (Nat → Int32) × (Nat → Int32) × (Nat → Int32) × (Nat → Int32) × (Nat → Int32)) := if isk = 0 then (some ((-5), sold, stk, pun, fra, tur, ft, fu, fh, fd, fb, hnx, hsz, rsold, rstk, rpun, rfra, rtur, rft, rfu, rfh, rfd, rfb)) else (Option.bind (F_X0_record hnx hsz fr sold stk pun fra tur ft fu fh fd fb rsold rstk rpun rfra rtur rft rfu rfh rfd rfb rqa) fun r2 => Option.bind (F_X3_copy sold stk pun fra tur ft fu fh fd fb ksold kstk kpun kfra ktur kft kfu kfh kfd kfb) fun r3 => Option.bind (F_X3_sold r3.1) fun r4 => some (r4, r3.1, r3.2.1, r3.2.2.1, r3.2.2.2.1, r3.2.2.2.2.1, r3.2.2.2.2.2.1, r3.2.2.2.2.2.2.1, r3.2.2.2.2.2.2.2.1, r3.2.2.2.2.2.2.2.2.1, r3.2.2.2.2.2.2.2.2.2, r2.1, r2.2.1, r2.2.2.1, r2.2.2.2.1, r2.2.2.2.2.1, r2.2.2.2.2.2.1, r2.2.2.2.2.2.2.1, r2.2.2.2.2.2.2.2.1, r2.2.2.2.2.2.2.2.2.1, r2.2.2.2.2.2.2.2.2.2.1, r2.2.2.2.2.2.2.2.2.2.2.1, r2.2.2.2.2.2.2.2.2.2.2.2))
def F_X5_in (p0 : Int32) (p1 : Int32) (p2 : Int32) : Option (Int32) := if p0 < p1 then (some 0) else (if p2 < p0 then (some 0) else (some 1))
def F_X5_isPlace (p0 : Int32) : Option (Int32) := Option.bind (F_X5_in p0 0 23) fun r1 => some r1
def F_X5_isPower (p0 : Int32) : Option (Int32) := Option.bind (F_X5_in p0 (-9999) 9999) fun r1 => some r1
def F_X5_ones_4 : Nat → Int32 → Int32 → Int32 → Option (Int32)
  | 0, _, _, _ => none
  | n + 1, x0, x1, x2 => if 24 ≤ x2 then (some x1) else (F_X5_ones_4 n x0 (x1 + ((x0 >>> (x2 &&& 31)) &&& 1)) (x2 + 1))
def F_X5_ones (p0 : Int32) : Option (Int32) := F_X5_ones_4 10000 p0 0 0
def F_X5_isTicket (fs : Nat → Int32) (p1 : Int32) : Option (Int32) := ck (ok (24 : Int32) 65) (Option.bind (F_X5_in p1 0 ((fs (Int32.toNatClampNeg (24 : Int32))) - 1)) fun r2 => some r2)
def F_X5_longOf_11 (fs : Nat → Int32) : Nat → Int32 → Int32 → Int32 → Option (Int32)
  | 0, _, _, _ => none
  | n + 1, x1, x2, x3 => if x3 = x1 then (some x2) else (ck (ok ((0 : Int32) + x3) 65) (F_X5_longOf_11 fs n x1 (x2 + 1) (fs (Int32.toNatClampNeg ((0 : Int32) + x3)))))
def F_X5_longOf (fs : Nat → Int32) (p1 : Int32) : Option (Int32) := ck (ok ((0 : Int32) + p1) 65) (F_X5_longOf_11 fs 10000 p1 1 (fs (Int32.toNatClampNeg ((0 : Int32) + p1))))
def F_X5_lowestOf_11 (fs : Nat → Int32) : Nat → Int32 → Int32 → Int32 → Option (Int32)
  | 0, _, _, _ => none
  | n + 1, x1, x2, x3 => if x3 = x1 then (some x2) else (if x2 ≤ x3 then (ck (ok ((0 : Int32) + x3) 65) (F_X5_lowestOf_11 fs n x1 x2 (fs (Int32.toNatClampNeg ((0 : Int32) + x3))))) else (ck (ok ((0 : Int32) + x3) 65) (F_X5_lowestOf_11 fs n x1 x3 (fs (Int32.toNatClampNeg ((0 : Int32) + x3))))))
def F_X5_lowestOf (fs : Nat → Int32) (p1 : Int32) : Option (Int32) := ck (ok ((0 : Int32) + p1) 65) (F_X5_lowestOf_11 fs 10000 p1 p1 (fs (Int32.toNatClampNeg ((0 : Int32) + p1))))
def F_X5_roundOf_13 (fs : Nat → Int32) : Nat → Int32 → Int32 → Int32 → Option (Int32)
  | 0, _, _, _ => none
  | n + 1, x1, x2, x3 => if x3 = x1 then (some x2) else (ck (ok ((0 : Int32) + x3) 65) (F_X5_roundOf_13 fs n x1 (x2 ||| ((1 : Int32) <<< (x3 &&& 31))) (fs (Int32.toNatClampNeg ((0 : Int32) + x3)))))
def F_X5_roundOf (fs : Nat → Int32) (p1 : Int32) : Option (Int32) := ck (ok ((0 : Int32) + p1) 65) (F_X5_roundOf_13 fs 10000 p1 ((1 : Int32) <<< (p1 &&& 31)) (fs (Int32.toNatClampNeg ((0 : Int32) + p1))))
def F_X5_sourceOf_4 (fs : Nat → Int32) : Nat → Int32 → Int32 → Int32 → Option (Int32)
  | 0, _, _, _ => none
  | n + 1, x1, x2, x3 => if 24 ≤ x3 then (some x2) else (ck (ok ((0 : Int32) + x3) 65) (if (fs (Int32.toNatClampNeg ((0 : Int32) + x3))) = x1 then (F_X5_sourceOf_4 fs n x1 x3 (x3 + 1)) else (F_X5_sourceOf_4 fs n x1 x2 (x3 + 1))))
def F_X5_sourceOf (fs : Nat → Int32) (p1 : Int32) : Option (Int32) := F_X5_sourceOf_4 fs 10000 p1 0 0
def F_X5_order_19 (fs : Nat → Int32) : Nat → Int32 → Int32 → Int32 → Int32 → Option Int32
  | 0, _, _, _, _ => none
  | n + 1, x4, x3, x1, x2 => ck (nz x3) (if (x4 - x4 / x3 * x3) = 0 then (some x4) else (F_X5_order_19 fs n (x4 + x1) x3 x1 x2))
def F_X5_order_4 (fs : Nat → Int32) : Nat → Int32 → Int32 → Option (Int32)
  | 0, _, _ => none
  | n + 1, x1, x2 => if 24 ≤ x2 then (some x1) else (Option.bind (F_X5_longOf fs x2) fun r2 => Option.bind (F_X5_order_19 fs 10000 x1 r2 x1 x2) fun r3 => F_X5_order_4 fs n r3 (x2 + 1))
def F_X5_order (fs : Nat → Int32) : Option (Int32) := F_X5_order_4 fs 10000 1 0
def F_X5_moved_4 (fs : Nat → Int32) : Nat → Int32 → Int32 → Int32 → Option (Int32)
  | 0, _, _, _ => none
  | n + 1, x1, x2, x3 => if 24 ≤ x3 then (some x2) else (ck (ok ((0 : Int32) + x3) 65) (nmd (((x1 >>> (x3 &&& 31)) &&& 1) <<< ((fs (Int32.toNatClampNeg ((0 : Int32) + x3))) &&& 31)) fun v3 => F_X5_moved_4 fs n x1 (x2 ||| v3) (x3 + 1)))
def F_X5_moved (fs : Nat → Int32) (p1 : Int32) : Option (Int32) := F_X5_moved_4 fs 10000 p1 0 0
def F_X5_forward (fs : Nat → Int32) (p1 : Int32) : Option (Int32) := Option.bind (F_X5_order fs) fun r1 => ck (nz r1) (if 0 ≤ (p1 - p1 / r1 * r1) then (some (p1 - p1 / r1 * r1)) else (some ((p1 - p1 / r1 * r1) + r1)))
def F_X5_turned_5 (fs : Nat → Int32) : Nat → Int32 → Int32 → Int32 → Int32 → Option (Int32)
  | 0, _, _, _, _ => none
  | n + 1, x1, x2, x3, x4 => if x2 ≤ x4 then (some x3) else (Option.bind (F_X5_moved fs x3) fun r2 => F_X5_turned_5 fs n x1 x2 r2 (x4 + 1))
def F_X5_turned (fs : Nat → Int32) (p1 : Int32) (p2 : Int32) : Option (Int32) := F_X5_turned_5 fs 10000 p1 p2 p1 0
def F_X5_isAt (len : Int32) (spo : Int32) (fx : Nat → Int32) (p1 : Int32) : Option (Int32) := if len ≤ spo then (some 0) else (ck (ok spo 80) (if (fx (Int32.toNatClampNeg spo)) = p1 then (some 1) else (some 0)))
def F_X5_isDigit (len : Int32) (spo : Int32) (fx : Nat → Int32) : Option (Int32) := if len ≤ spo then (some 0) else (ck (ok spo 80) (Option.bind (F_X5_in (fx (Int32.toNatClampNeg spo)) 48 57) fun r3 => if r3 = 0 then (some 0) else (some 1)))
def F_X5_isFalse (fs : Nat → Int32) (p1 : Int32) : Option (Int32) := ck (ok ((25 : Int32) + p1) 65) (ck (ok ((37 : Int32) + p1) 65) (if (fs (Int32.toNatClampNeg ((25 : Int32) + p1))) = (fs (Int32.toNatClampNeg ((37 : Int32) + p1))) then (some 0) else (some 1)))
def F_X5_isOn (fs : Nat → Int32) (p1 : Int32) : Option (Int32) := ck (ok (49 : Int32) 65) (if (((fs (Int32.toNatClampNeg (49 : Int32))) >>> (p1 &&& 31)) &&& 1) = 1 then (some 1) else (some 0))
def F_X5_withHole_4 (fs : Nat → Int32) : Nat → Int32 → Int32 → Int32 → Option (Int32)
  | 0, _, _, _ => none
  | n + 1, x1, x2, x3 => ck (ok (24 : Int32) 65) (if (fs (Int32.toNatClampNeg (24 : Int32))) ≤ x3 then (some x2) else (ck (ok ((25 : Int32) + x3) 65) (nmd ((((fs (Int32.toNatClampNeg ((25 : Int32) + x3))) >>> (x1 &&& 31)) &&& 1) <<< (x3 &&& 31)) fun v4 => F_X5_withHole_4 fs n x1 (x2 ||| v4) (x3 + 1))))
def F_X5_withHole (fs : Nat → Int32) (p1 : Int32) : Option (Int32) := F_X5_withHole_4 fs 10000 p1 0 0
def F_X5_rounds_4 (fs : Nat → Int32) : Nat → Int32 → Int32 → Option (Int32)
  | 0, _, _ => none
  | n + 1, x1, x2 => if 24 ≤ x2 then (some x1) else (Option.bind (F_X5_lowestOf fs x2) fun r2 => if r2 = x2 then (F_X5_rounds_4 fs n (x1 + 1) (x2 + 1)) else (F_X5_rounds_4 fs n (x1 + 0) (x2 + 1)))
def F_X5_rounds (fs : Nat → Int32) : Option (Int32) := F_X5_rounds_4 fs 10000 0 0
def F_X5_stays_4 (fs : Nat → Int32) : Nat → Int32 → Int32 → Option (Int32)
  | 0, _, _ => none
  | n + 1, x1, x2 => if 24 ≤ x2 then (some x1) else (ck (ok ((0 : Int32) + x2) 65) (if (fs (Int32.toNatClampNeg ((0 : Int32) + x2))) = x2 then (F_X5_stays_4 fs n (x1 + 1) (x2 + 1)) else (F_X5_stays_4 fs n (x1 + 0) (x2 + 1))))
def F_X5_stays (fs : Nat → Int32) : Option (Int32) := F_X5_stays_4 fs 10000 0 0
def F_X5_longest_4 (fs : Nat → Int32) : Nat → Int32 → Int32 → Option (Int32)
  | 0, _, _ => none
  | n + 1, x1, x2 => if 24 ≤ x2 then (some x1) else (Option.bind (F_X5_longOf fs x2) fun r2 => if r2 ≤ x1 then (F_X5_longest_4 fs n x1 (x2 + 1)) else (Option.bind (F_X5_longOf fs x2) fun r4 => F_X5_longest_4 fs n r4 (x2 + 1)))
def F_X5_longest (fs : Nat → Int32) : Option (Int32) := F_X5_longest_4 fs 10000 0 0
def F_X5_movesTo_24 (fs : Nat → Int32) : Nat → Int32 → Int32 → Int32 → Int32 → Int32 → Int32 → Option (Int32)
  | 0, _, _, _, _, _, _ => none
  | n + 1, x1, x2, x3, x4, x5, x6 => if (x4 + x3) ≤ x6 then (some (-5)) else (if x5 = x2 then (some x6) else (Option.bind (F_X5_moved fs x5) fun r6 => F_X5_movesTo_24 fs n x1 x2 x3 x4 r6 (x6 + 1)))
def F_X5_movesTo (fs : Nat → Int32) (p1 : Int32) (p2 : Int32) (p3 : Int32) : Option (Int32) := Option.bind (F_X5_order fs) fun r1 => if p3 = 0 then (F_X5_movesTo_24 fs 10000 p1 p2 p3 r1 p1 p3) else (Option.bind (F_X5_moved fs p1) fun r3 => F_X5_movesTo_24 fs 10000 p1 p2 p3 r1 r3 p3)
def F_X5_lightBut_5 (fs : Nat → Int32) : Nat → Int32 → Int32 → Int32 → Option (Int32)
  | 0, _, _, _ => none
  | n + 1, x1, x2, x3 => ck (ok (24 : Int32) 65) (if (fs (Int32.toNatClampNeg (24 : Int32))) ≤ x3 then (some x2) else (Option.bind (F_X5_isOn fs x3) fun r3 => if r3 = 0 then (F_X5_lightBut_5 fs n x1 (x2 &&& 16777215) (x3 + 1)) else (if x3 = x1 then (F_X5_lightBut_5 fs n x1 (x2 &&& 16777215) (x3 + 1)) else (ck (ok ((25 : Int32) + x3) 65) (F_X5_lightBut_5 fs n x1 (x2 &&& (fs (Int32.toNatClampNeg ((25 : Int32) + x3)))) (x3 + 1))))))
def F_X5_lightBut (fs : Nat → Int32) (p1 : Int32) : Option (Int32) := F_X5_lightBut_5 fs 10000 p1 16777215 0
def F_X5_lit (fs : Nat → Int32) : Option (Int32) := ck (ok (49 : Int32) 65) (if (fs (Int32.toNatClampNeg (49 : Int32))) = 0 then (some 0) else (Option.bind (F_X5_lightBut fs (-1)) fun r3 => some r3))
def F_X5_allOf_4 (fs : Nat → Int32) : Nat → Int32 → Int32 → Int32 → Option (Int32)
  | 0, _, _, _ => none
  | n + 1, x1, x2, x3 => ck (ok (24 : Int32) 65) (if (fs (Int32.toNatClampNeg (24 : Int32))) ≤ x3 then (some x2) else (ck (ok (x1 + x3) 65) (Option.bind (F_X5_ones (fs (Int32.toNatClampNeg (x1 + x3)))) fun r4 => F_X5_allOf_4 fs n x1 (x2 + r4) (x3 + 1))))
def F_X5_allOf (fs : Nat → Int32) (p1 : Int32) : Option (Int32) := F_X5_allOf_4 fs 10000 p1 0 0
def F_X5_falseOnes_4 (fs : Nat → Int32) : Nat → Int32 → Int32 → Option (Int32)
  | 0, _, _ => none
  | n + 1, x1, x2 => ck (ok (24 : Int32) 65) (if (fs (Int32.toNatClampNeg (24 : Int32))) ≤ x2 then (some x1) else (Option.bind (F_X5_isFalse fs x2) fun r3 => if r3 = 0 then (F_X5_falseOnes_4 fs n (x1 + 0) (x2 + 1)) else (F_X5_falseOnes_4 fs n (x1 + 1) (x2 + 1))))
def F_X5_falseOnes (fs : Nat → Int32) : Option (Int32) := F_X5_falseOnes_4 fs 10000 0 0
def F_X5_place (fs : Nat → Int32) (p1 : Int32) (p2 : Int32) : Option (Int32) := Option.bind (F_X5_isPlace p1) fun r1 => if r1 = 0 then (some (-1)) else (if p2 = 0 then (ck (ok ((0 : Int32) + p1) 65) (some (fs (Int32.toNatClampNeg ((0 : Int32) + p1))))) else (if p2 = 1 then (Option.bind (F_X5_sourceOf fs p1) fun r4 => some r4) else (if p2 = 2 then (Option.bind (F_X5_longOf fs p1) fun r5 => some r5) else (if p2 = 3 then (Option.bind (F_X5_lowestOf fs p1) fun r6 => some r6) else (if p2 = 4 then (Option.bind (F_X5_withHole fs p1) fun r7 => some r7) else (some (-2)))))))
def F_X5_move (fs : Nat → Int32) (p1 : Int32) : Option (Int32) := if p1 = 0 then (Option.bind (F_X5_order fs) fun r1 => some r1) else (if p1 = 1 then (Option.bind (F_X5_rounds fs) fun r2 => some r2) else (if p1 = 2 then (Option.bind (F_X5_stays fs) fun r3 => some r3) else (if p1 = 3 then (Option.bind (F_X5_longest fs) fun r4 => some r4) else (if p1 = 4 then (Option.bind (F_X5_rounds fs) fun r5 => if (((24 : Int32) - r5) - ((24 : Int32) - r5) / 2 * 2) = 0 then (some 1) else (some 0)) else (some (-2))))))
def F_X5_power_28 (fs : Nat → Int32) : Nat → Int32 → Int32 → Int32 → Int32 → Option (Int32)
  | 0, _, _, _, _ => none
  | n + 1, x1, x2, x3, x4 => if x4 ≤ 0 then (some x3) else (ck (ok ((0 : Int32) + x3) 65) (F_X5_power_28 fs n x1 x2 (fs (Int32.toNatClampNeg ((0 : Int32) + x3))) (x4 + (-1))))
def F_X5_power (fs : Nat → Int32) (p1 : Int32) (p2 : Int32) : Option (Int32) := Option.bind (F_X5_isPlace p1) fun r1 => if r1 = 0 then (some (-1)) else (Option.bind (F_X5_isPower p2) fun r3 => if r3 = 0 then (some (-2)) else (Option.bind (F_X5_forward fs p2) fun r5 => F_X5_power_28 fs 10000 p1 p2 p1 r5))
def F_X5_ticket (fs : Nat → Int32) (p1 : Int32) (p2 : Int32) : Option (Int32) := Option.bind (F_X5_isTicket fs p1) fun r1 => if r1 = 0 then (some (-1)) else (ck (ok ((25 : Int32) + p1) 65) (ck (ok ((37 : Int32) + p1) 65) (if p2 = 0 then (some (fs (Int32.toNatClampNeg ((25 : Int32) + p1)))) else (if p2 = 1 then (some (fs (Int32.toNatClampNeg ((37 : Int32) + p1)))) else (if p2 = 2 then (nmd ((fs (Int32.toNatClampNeg ((25 : Int32) + p1))) &&& ((fs (Int32.toNatClampNeg ((37 : Int32) + p1))) ^^^ (-1))) fun v5 => some v5) else (if p2 = 3 then (nmd ((fs (Int32.toNatClampNeg ((37 : Int32) + p1))) &&& ((fs (Int32.toNatClampNeg ((25 : Int32) + p1))) ^^^ (-1))) fun v6 => some v6) else (if p2 = 4 then (Option.bind (F_X5_ones (fs (Int32.toNatClampNeg ((25 : Int32) + p1)))) fun r7 => some r7) else (if p2 = 5 then (Option.bind (F_X5_isFalse fs p1) fun r8 => if r8 = 0 then (some 0) else (some 1)) else (if p2 = 6 then (Option.bind (F_X5_movesTo fs (fs (Int32.toNatClampNeg ((25 : Int32) + p1))) (fs (Int32.toNatClampNeg ((25 : Int32) + p1))) 1) fun r10 => some r10) else (if p2 = 7 then (Option.bind (F_X5_isOn fs p1) fun r11 => if r11 = 0 then (some 0) else (some 1)) else (if p2 = 8 then (ck (ok ((50 : Int32) + p1) 65) (some (fs (Int32.toNatClampNeg ((50 : Int32) + p1))))) else (some (-2)))))))))))))
def F_X5_alikeIn (fs : Nat → Int32) (p1 : Int32) (p2 : Int32) : Option (Int32) := Option.bind (F_X5_isTicket fs p1) fun r1 => if r1 = 0 then (some (-1)) else (Option.bind (F_X5_isTicket fs p2) fun r3 => if r3 = 0 then (some (-1)) else (ck (ok ((25 : Int32) + p1) 65) (ck (ok ((25 : Int32) + p2) 65) (Option.bind (F_X5_movesTo fs (fs (Int32.toNatClampNeg ((25 : Int32) + p1))) (fs (Int32.toNatClampNeg ((25 : Int32) + p2))) 0) fun r7 => some r7))))
def F_X5_meetsIn_37 (fs : Nat → Int32) : Nat → Int32 → Int32 → Int32 → Int32 → Int32 → Option (Int32)
  | 0, _, _, _, _, _ => none
  | n + 1, x1, x2, x3, x4, x5 => if x3 ≤ x5 then (some (-5)) else (ck (ok ((25 : Int32) + x2) 65) (if (x4 &&& (fs (Int32.toNatClampNeg ((25 : Int32) + x2)))) = 0 then (Option.bind (F_X5_moved fs x4) fun r10 => F_X5_meetsIn_37 fs n x1 x2 x3 r10 (x5 + 1)) else (some x5)))
def F_X5_meetsIn (fs : Nat → Int32) (p1 : Int32) (p2 : Int32) : Option (Int32) := Option.bind (F_X5_isTicket fs p1) fun r1 => if r1 = 0 then (some (-1)) else (Option.bind (F_X5_isTicket fs p2) fun r3 => if r3 = 0 then (some (-1)) else (Option.bind (F_X5_order fs) fun r5 => ck (ok ((25 : Int32) + p1) 65) (F_X5_meetsIn_37 fs 10000 p1 p2 r5 (fs (Int32.toNatClampNeg ((25 : Int32) + p1))) 0)))
def F_X5_reason_59 (fs : Nat → Int32) : Nat → Int32 → Int32 → Int32 → Int32 → Int32 → Int32 → Option (Int32)
  | 0, _, _, _, _, _, _ => none
  | n + 1, x1, x2, x3, x4, x5, x6 => if 24 ≤ x6 then (if x5 = 0 then (some 2) else (Option.bind (F_X5_movesTo fs x3 x4 0) fun r12 => if r12 = (-5) then (some 3) else (some 0))) else (if x5 = 0 then (F_X5_reason_59 fs n x1 x2 x3 x4 0 (x6 + 1)) else (Option.bind (F_X5_roundOf fs x6) fun r15 => Option.bind (F_X5_ones (x3 &&& r15)) fun r16 => Option.bind (F_X5_roundOf fs x6) fun r17 => Option.bind (F_X5_ones (x4 &&& r17)) fun r18 => if r16 = r18 then (F_X5_reason_59 fs n x1 x2 x3 x4 1 (x6 + 1)) else (F_X5_reason_59 fs n x1 x2 x3 x4 0 (x6 + 1))))
def F_X5_reason (fs : Nat → Int32) (p1 : Int32) (p2 : Int32) : Option (Int32) := Option.bind (F_X5_isTicket fs p1) fun r1 => if r1 = 0 then (some (-1)) else (Option.bind (F_X5_isTicket fs p2) fun r3 => if r3 = 0 then (some (-1)) else (ck (ok ((25 : Int32) + p1) 65) (ck (ok ((25 : Int32) + p2) 65) (Option.bind (F_X5_ones (fs (Int32.toNatClampNeg ((25 : Int32) + p1)))) fun r7 => Option.bind (F_X5_ones (fs (Int32.toNatClampNeg ((25 : Int32) + p2)))) fun r8 => if r7 = r8 then (F_X5_reason_59 fs 10000 p1 p2 (fs (Int32.toNatClampNeg ((25 : Int32) + p1))) (fs (Int32.toNatClampNeg ((25 : Int32) + p2))) 1 0) else (some 1)))))
def F_X5_kin_14 (fs : Nat → Int32) : Nat → Int32 → Int32 → Int32 → Option (Int32)
  | 0, _, _, _ => none
  | n + 1, x1, x2, x3 => ck (ok (24 : Int32) 65) (if (fs (Int32.toNatClampNeg (24 : Int32))) ≤ x3 then (some x2) else (ck (ok ((25 : Int32) + x3) 65) (ck (ok ((25 : Int32) + x1) 65) (Option.bind (F_X5_movesTo fs (fs (Int32.toNatClampNeg ((25 : Int32) + x3))) (fs (Int32.toNatClampNeg ((25 : Int32) + x1))) 0) fun r7 => if r7 = (-5) then (F_X5_kin_14 fs n x1 (x2 ||| 0) (x3 + 1)) else (F_X5_kin_14 fs n x1 (x2 ||| ((1 : Int32) <<< (x3 &&& 31))) (x3 + 1))))))
def F_X5_kin (fs : Nat → Int32) (p1 : Int32) : Option (Int32) := Option.bind (F_X5_isTicket fs p1) fun r1 => if r1 = 0 then (some (-1)) else (F_X5_kin_14 fs 10000 p1 0 0)
def F_X5_light (fs : Nat → Int32) : Option (Int32) := Option.bind (F_X5_lit fs) fun r1 => some r1
def F_X5_bestTurn_65 (fs : Nat → Int32) : Nat → Int32 → Int32 → Int32 → Int32 → Int32 → Int32 → Int32 → Int32 → Option (Int32)
  | 0, _, _, _, _, _, _, _, _ => none
  | n + 1, x1, x2, x3, x4, x5, x6, x7, x8 => if x4 ≤ x8 then (if x2 = 0 then (some x6) else (some x7)) else (Option.bind (F_X5_ones (x5 &&& x3)) fun r12 => if r12 ≤ x7 then (if r12 ≤ x7 then (Option.bind (F_X5_moved fs x5) fun r15 => F_X5_bestTurn_65 fs n x1 x2 x3 x4 r15 x6 x7 (x8 + 1)) else (Option.bind (F_X5_moved fs x5) fun r16 => F_X5_bestTurn_65 fs n x1 x2 x3 x4 r16 x6 r12 (x8 + 1))) else (if r12 ≤ x7 then (Option.bind (F_X5_moved fs x5) fun r18 => F_X5_bestTurn_65 fs n x1 x2 x3 x4 r18 x8 x7 (x8 + 1)) else (Option.bind (F_X5_moved fs x5) fun r19 => F_X5_bestTurn_65 fs n x1 x2 x3 x4 r19 x8 r12 (x8 + 1))))
def F_X5_bestTurn (fs : Nat → Int32) (p1 : Int32) (p2 : Int32) : Option (Int32) := Option.bind (F_X5_isTicket fs p1) fun r1 => if r1 = 0 then (some (-1)) else (Option.bind (F_X5_in p2 0 1) fun r3 => if r3 = 0 then (some (-2)) else (Option.bind (F_X5_isOn fs p1) fun r5 => if r5 = 0 then (some (-4)) else (Option.bind (F_X5_lightBut fs p1) fun r7 => Option.bind (F_X5_order fs) fun r8 => ck (ok ((25 : Int32) + p1) 65) (F_X5_bestTurn_65 fs 10000 p1 p2 r7 r8 (fs (Int32.toNatClampNeg ((25 : Int32) + p1))) 0 (-1) 0))))
def F_X5_count (pas : Int32) (len : Int32) (fs : Nat → Int32) (p1 : Int32) : Option (Int32) := if p1 = 0 then (ck (ok (24 : Int32) 65) (some (fs (Int32.toNatClampNeg (24 : Int32))))) else (if p1 = 1 then (ck (ok (49 : Int32) 65) (Option.bind (F_X5_ones (fs (Int32.toNatClampNeg (49 : Int32)))) fun r3 => some r3)) else (if p1 = 2 then (Option.bind (F_X5_falseOnes fs) fun r4 => some r4) else (if p1 = 3 then (Option.bind (F_X5_allOf fs 25) fun r5 => some r5) else (if p1 = 4 then (Option.bind (F_X5_allOf fs 37) fun r6 => some r6) else (if p1 = 5 then (Option.bind (F_X5_lit fs) fun r7 => Option.bind (F_X5_ones r7) fun r8 => some r8) else (if p1 = 6 then (ck (ok (62 : Int32) 65) (some (fs (Int32.toNatClampNeg (62 : Int32))))) else (if p1 = 7 then (ck (ok (63 : Int32) 65) (some (fs (Int32.toNatClampNeg (63 : Int32))))) else (if p1 = 8 then (ck (ok (64 : Int32) 65) (some (fs (Int32.toNatClampNeg (64 : Int32))))) else (if p1 = 9 then (some pas) else (if p1 = 10 then (some len) else (some (-2))))))))))))
def F_X5_records_50 (fs : Nat → Int32) : Nat → Int32 → Int32 → (Nat → Int32) → Option (Int32 × (Nat → Int32))
  | 0, _, _, _ => none
  | n + 1, x1, pas, fp => if 65 ≤ x1 then (some (pas + 1, fp)) else (ck (ok x1 65) (ck (ok (((65 : Int32) * pas) + x1) 260) (F_X5_records_50 fs n (x1 + 1) pas (upd fp (Int32.toNatClampNeg (((65 : Int32) * pas) + x1)) (fs (Int32.toNatClampNeg x1))))))
def F_X5_records_10 (fs : Nat → Int32) : Nat → Int32 → Int32 → (Nat → Int32) → Option (Int32 × (Nat → Int32))
  | 0, _, _, _ => none
  | n + 1, x1, pas, fp => if 195 ≤ x1 then (F_X5_records_50 fs 10000 0 (pas - 1) fp) else (ck (ok ((65 : Int32) + x1) 260) (ck (ok x1 260) (F_X5_records_10 fs n (x1 + 1) pas (upd fp (Int32.toNatClampNeg x1) (fp (Int32.toNatClampNeg ((65 : Int32) + x1)))))))
def F_X5_records (pas : Int32) (fs : Nat → Int32) (fp : Nat → Int32) : Option (Int32 × (Nat → Int32)) := if pas = 4 then (F_X5_records_10 fs 10000 0 pas fp) else (F_X5_records_50 fs 10000 0 pas fp)
def F_X5_takes_6 (fm : Nat → Int32) : Nat → Int32 → Int32 → (Nat → Int32) → (Nat → Int32) → Option (Int32 × (Nat → Int32) × (Nat → Int32))
  | 0, _, _, _, _ => none
  | n + 1, x1, pas, fs, fp => if 24 ≤ x1 then (some (pas, fs, fp)) else (ck (ok x1 24) (ck (ok ((0 : Int32) + x1) 65) (F_X5_takes_6 fm n (x1 + 1) pas (upd fs (Int32.toNatClampNeg ((0 : Int32) + x1)) (fm (Int32.toNatClampNeg x1))) fp)))
def F_X5_takes (pas : Int32) (fs : Nat → Int32) (fp : Nat → Int32) (fm : Nat → Int32) : Option (Int32 × (Nat → Int32) × (Nat → Int32)) := Option.bind (F_X5_records pas fs fp) fun r1 => F_X5_takes_6 fm 10000 0 r1.1 fs r1.2
def F_X5_fails (len : Int32) (spo : Int32) (kin : Int32) : Option (Int32) := if spo = len then (some 1) else (some 4)
def F_X5_reads_35 (len : Int32) (fx : Nat → Int32) : Nat → Int32 → Int32 → Int32 → Int32 → Int32 → Int32 → Int32 → (Nat → Int32) → Option (Int32 × Int32 × Int32 × Int32 × Int32 × Int32 × (Nat → Int32))
  | 0, _, _, _, _, _, _, _, _ => none
  | n + 1, x1, spo, kin, cam, fst, lst, inr, fm => Option.bind (F_X5_isDigit len spo fx) fun r5 => if r5 = 0 then (if ((cam >>> (x1 &&& 31)) &&& 1) = 1 then (some (spo, 3, cam, fst, lst, inr, fm)) else (if inr = 0 then (ck (ok x1 24) (some (spo, kin, cam ||| ((1 : Int32) <<< (x1 &&& 31)), x1, x1, inr + 1, upd fm (Int32.toNatClampNeg x1) x1))) else (ck (ok lst 24) (ck (ok x1 24) (some (spo, kin, cam ||| ((1 : Int32) <<< (x1 &&& 31)), fst, x1, inr + 1, upd (upd fm (Int32.toNatClampNeg lst) x1) (Int32.toNatClampNeg x1) fst)))))) else (if kin = 0 then (ck (ok spo 80) (if x1 = 0 then (some (spo, 2, cam, fst, lst, inr, fm)) else (if ((((10 : Int32) * x1) + (fx (Int32.toNatClampNeg spo))) - 48) < 24 then (F_X5_reads_35 len fx n ((((10 : Int32) * x1) + (fx (Int32.toNatClampNeg spo))) - 48) (spo + 1) kin cam fst lst inr fm) else (some (spo, 2, cam, fst, lst, inr, fm))))) else (if ((cam >>> (x1 &&& 31)) &&& 1) = 1 then (some (spo, 3, cam, fst, lst, inr, fm)) else (if inr = 0 then (ck (ok x1 24) (some (spo, kin, cam ||| ((1 : Int32) <<< (x1 &&& 31)), x1, x1, inr + 1, upd fm (Int32.toNatClampNeg x1) x1))) else (ck (ok lst 24) (ck (ok x1 24) (some (spo, kin, cam ||| ((1 : Int32) <<< (x1 &&& 31)), fst, x1, inr + 1, upd (upd fm (Int32.toNatClampNeg lst) x1) (Int32.toNatClampNeg x1) fst)))))))
def F_X5_reads (len : Int32) (spo : Int32) (kin : Int32) (cam : Int32) (fst : Int32) (lst : Int32) (inr : Int32) (fx : Nat → Int32) (fm : Nat → Int32) : Option (Int32 × Int32 × Int32 × Int32 × Int32 × Int32 × (Nat → Int32)) := Option.bind (F_X5_isDigit len spo fx) fun r1 => if r1 = 0 then (Option.bind (F_X5_fails len spo kin) fun r4 => some (spo, r4, cam, fst, lst, inr, fm)) else (ck (ok spo 80) (F_X5_reads_35 len fx 10000 ((fx (Int32.toNatClampNeg spo)) - 48) (spo + 1) kin cam fst lst inr fm))
def F_X5_round_21 (len : Int32) (fx : Nat → Int32) : Nat → Int32 → Int32 → Int32 → Int32 → Int32 → Int32 → Int32 → (Nat → Int32) → Option (Int32 × Int32 × Int32 × Int32 × Int32 × Int32 × (Nat → Int32))
  | 0, _, _, _, _, _, _, _, _ => none
  | n + 1, x1, spo, kin, cam, fst, lst, inr, fm => if x1 = 0 then (if kin = 0 then (if inr ≤ 1 then (Option.bind (F_X5_fails len spo kin) fun r7 => some (spo, r7, cam, fst, lst, inr, fm)) else (Option.bind (F_X5_isAt len spo fx 41) fun r8 => if r8 = 0 then (Option.bind (F_X5_fails len spo kin) fun r10 => some (spo, r10, cam, fst, lst, inr, fm)) else (some (spo + 1, kin, cam, fst, lst, inr, fm)))) else (some (spo, kin, cam, fst, lst, inr, fm))) else (Option.bind (F_X5_reads len (spo + 1) kin cam fst lst inr fx fm) fun r11 => if r11.2.1 = 0 then (Option.bind (F_X5_isAt len r11.1 fx 44) fun r13 => if r13 = 0 then (F_X5_round_21 len fx n 0 r11.1 r11.2.1 r11.2.2.1 r11.2.2.2.1 r11.2.2.2.2.1 r11.2.2.2.2.2.1 r11.2.2.2.2.2.2) else (F_X5_round_21 len fx n 1 r11.1 r11.2.1 r11.2.2.1 r11.2.2.2.1 r11.2.2.2.2.1 r11.2.2.2.2.2.1 r11.2.2.2.2.2.2)) else (F_X5_round_21 len fx n 0 r11.1 r11.2.1 r11.2.2.1 r11.2.2.2.1 r11.2.2.2.2.1 r11.2.2.2.2.2.1 r11.2.2.2.2.2.2))
def F_X5_round (len : Int32) (spo : Int32) (kin : Int32) (cam : Int32) (fst : Int32) (lst : Int32) (inr : Int32) (fx : Nat → Int32) (fm : Nat → Int32) : Option (Int32 × Int32 × Int32 × Int32 × Int32 × Int32 × (Nat → Int32)) := Option.bind (F_X5_isAt len spo fx 40) fun r1 => if r1 = 0 then (Option.bind (F_X5_fails len spo kin) fun r3 => some (spo, r3, cam, fst, lst, 0, fm)) else (F_X5_round_21 len fx 10000 1 spo kin cam fst lst 0 fm)
def F_X5_isMove_36 (len : Int32) (fx : Nat → Int32) : Nat → Int32 → Int32 → Int32 → Int32 → Int32 → Int32 → Int32 → (Nat → Int32) → Option (Int32 × Int32 × Int32 × Int32 × Int32 × Int32 × Int32 × (Nat → Int32))
  | 0, _, _, _, _, _, _, _, _ => none
  | n + 1, x1, spo, kin, cam, fst, lst, inr, fm => Option.bind (F_X5_round len spo kin cam fst lst inr fx fm) fun r3 => if r3.2.1 = 0 then (if r3.1 < len then (F_X5_isMove_36 len fx n x1 r3.1 r3.2.1 r3.2.2.1 r3.2.2.2.1 r3.2.2.2.2.1 r3.2.2.2.2.2.1 r3.2.2.2.2.2.2) else (if r3.2.1 = 0 then (some (1, r3.1, r3.2.1, r3.2.2.1, r3.2.2.2.1, r3.2.2.2.2.1, r3.2.2.2.2.2.1, r3.2.2.2.2.2.2)) else (some (0, r3.1, r3.2.1, r3.2.2.1, r3.2.2.2.1, r3.2.2.2.2.1, r3.2.2.2.2.2.1, r3.2.2.2.2.2.2)))) else (if r3.2.1 = 0 then (some (1, r3.1, r3.2.1, r3.2.2.1, r3.2.2.2.1, r3.2.2.2.2.1, r3.2.2.2.2.2.1, r3.2.2.2.2.2.2)) else (some (0, r3.1, r3.2.1, r3.2.2.1, r3.2.2.2.1, r3.2.2.2.2.1, r3.2.2.2.2.2.1, r3.2.2.2.2.2.2)))
def F_X5_isMove_2 (len : Int32) (fx : Nat → Int32) : Nat → Int32 → Int32 → Int32 → Int32 → Int32 → Int32 → Int32 → (Nat → Int32) → Option (Int32 × Int32 × Int32 × Int32 × Int32 × Int32 × Int32 × (Nat → Int32))
  | 0, _, _, _, _, _, _, _, _ => none
  | n + 1, x1, spo, kin, cam, fst, lst, inr, fm => if 24 ≤ x1 then (F_X5_isMove_36 len fx 10000 x1 0 0 0 fst lst inr fm) else (ck (ok x1 24) (F_X5_isMove_2 len fx n (x1 + 1) spo kin cam fst lst inr (upd fm (Int32.toNatClampNeg x1) x1)))
def F_X5_isMove (len : Int32) (spo : Int32) (kin : Int32) (cam : Int32) (fst : Int32) (lst : Int32) (inr : Int32) (fx : Nat → Int32) (fm : Nat → Int32) : Option (Int32 × Int32 × Int32 × Int32 × Int32 × Int32 × Int32 × (Nat → Int32)) := F_X5_isMove_2 len fx 10000 0 spo kin cam fst lst inr fm
def F_X5_turns (fs : Nat → Int32) (p1 : Int32) (p2 : Int32) : Option ((Nat → Int32)) := Option.bind (F_X5_forward fs p2) fun r1 => ck (ok ((25 : Int32) + p1) 65) (Option.bind (F_X5_turned fs (fs (Int32.toNatClampNeg ((25 : Int32) + p1))) r1) fun r3 => ck (ok ((25 : Int32) + p1) 65) (ck (ok ((37 : Int32) + p1) 65) (nmd ((upd fs (Int32.toNatClampNeg ((25 : Int32) + p1)) r3) (Int32.toNatClampNeg ((37 : Int32) + p1))) fun v6 => Option.bind (F_X5_turned (upd fs (Int32.toNatClampNeg ((25 : Int32) + p1)) r3) v6 r1) fun r7 => ck (ok ((37 : Int32) + p1) 65) (ck (ok ((50 : Int32) + p1) 65) (nmd ((upd (upd fs (Int32.toNatClampNeg ((25 : Int32) + p1)) r3) (Int32.toNatClampNeg ((37 : Int32) + p1)) r7) (Int32.toNatClampNeg ((50 : Int32) + p1))) fun v10 => ck (ok ((50 : Int32) + p1) 65) (ck (ok (64 : Int32) 65) (nmd ((upd (upd (upd fs (Int32.toNatClampNeg ((25 : Int32) + p1)) r3) (Int32.toNatClampNeg ((37 : Int32) + p1)) r7) (Int32.toNatClampNeg ((50 : Int32) + p1)) (v10 + p2)) (Int32.toNatClampNeg (64 : Int32))) fun v13 => ck (ok (64 : Int32) 65) (some (upd (upd (upd (upd fs (Int32.toNatClampNeg ((25 : Int32) + p1)) r3) (Int32.toNatClampNeg ((37 : Int32) + p1)) r7) (Int32.toNatClampNeg ((50 : Int32) + p1)) (v10 + p2)) (Int32.toNatClampNeg (64 : Int32)) (v13 + 1))))))))))
def F_X5_exchange (pas : Int32) (fs : Nat → Int32) (fp : Nat → Int32) (p1 : Int32) (p2 : Int32) : Option (Int32 × Int32 × (Nat → Int32) × (Nat → Int32)) := Option.bind (F_X5_isPlace p1) fun r1 => if r1 = 0 then (some ((-1), pas, fs, fp)) else (Option.bind (F_X5_isPlace p2) fun r3 => if r3 = 0 then (some ((-1), pas, fs, fp)) else (if p1 = p2 then (some ((-5), pas, fs, fp)) else (Option.bind (F_X5_records pas fs fp) fun r6 => ck (ok ((0 : Int32) + p1) 65) (ck (ok ((0 : Int32) + p2) 65) (ck (ok ((0 : Int32) + p1) 65) (ck (ok ((0 : Int32) + p2) 65) (Option.bind (F_X5_order (upd (upd fs (Int32.toNatClampNeg ((0 : Int32) + p1)) (fs (Int32.toNatClampNeg ((0 : Int32) + p2)))) (Int32.toNatClampNeg ((0 : Int32) + p2)) (fs (Int32.toNatClampNeg ((0 : Int32) + p1))))) fun r11 => some (r11, r6.1, upd (upd fs (Int32.toNatClampNeg ((0 : Int32) + p1)) (fs (Int32.toNatClampNeg ((0 : Int32) + p2)))) (Int32.toNatClampNeg ((0 : Int32) + p2)) (fs (Int32.toNatClampNeg ((0 : Int32) + p1))), r6.2))))))))
def F_X5_reverse_4 : Nat → Int32 → Int32 → Int32 → (Nat → Int32) → (Nat → Int32) → (Nat → Int32) → Option (Int32 × Int32 × (Nat → Int32) × (Nat → Int32) × (Nat → Int32))
  | 0, _, _, _, _, _, _ => none
  | n + 1, x1, x2, pas, fs, fp, fm => if 24 ≤ x2 then (if x1 = 0 then (Option.bind (F_X5_takes pas fs fp fm) fun r3 => Option.bind (F_X5_order r3.2.1) fun r4 => some (r4, r3.1, r3.2.1, r3.2.2, fm)) else (some ((-5), pas, fs, fp, fm))) else (Option.bind (F_X5_sourceOf fs x2) fun r5 => ck (ok x2 24) (if x1 = 0 then (F_X5_reverse_4 n 0 (x2 + 1) pas fs fp (upd fm (Int32.toNatClampNeg x2) r5)) else (ck (ok x2 24) (ck (ok ((0 : Int32) + x2) 65) (if ((upd fm (Int32.toNatClampNeg x2) r5) (Int32.toNatClampNeg x2)) = (fs (Int32.toNatClampNeg ((0 : Int32) + x2))) then (F_X5_reverse_4 n 1 (x2 + 1) pas fs fp (upd fm (Int32.toNatClampNeg x2) r5)) else (F_X5_reverse_4 n 0 (x2 + 1) pas fs fp (upd fm (Int32.toNatClampNeg x2) r5)))))))
def F_X5_reverse (pas : Int32) (fs : Nat → Int32) (fp : Nat → Int32) (fm : Nat → Int32) : Option (Int32 × Int32 × (Nat → Int32) × (Nat → Int32) × (Nat → Int32)) := F_X5_reverse_4 10000 1 0 pas fs fp fm
def F_X5_type (len : Int32) (fx : Nat → Int32) (p1 : Int32) : Option (Int32 × Int32 × (Nat → Int32)) := if len = 80 then (some ((-3), len, fx)) else (ck (ok len 80) (some (len + 1, len + 1, upd fx (Int32.toNatClampNeg len) (vp_nar .char p1))))
def F_X5_clearText (len : Int32) : Option (Int32 × Int32) := some (len, 0)
def F_X5_readMove (pas : Int32) (len : Int32) (spo : Int32) (kin : Int32) (cam : Int32) (fst : Int32) (lst : Int32) (inr : Int32) (fs : Nat → Int32) (fp : Nat → Int32) (fx : Nat → Int32) (fm : Nat → Int32) : Option (Int32 × Int32 × Int32 × Int32 × Int32 × Int32 × Int32 × Int32 × (Nat → Int32) × (Nat → Int32) × (Nat → Int32)) := Option.bind (F_X5_isMove len spo kin cam fst lst inr fx fm) fun r1 => if r1.1 = 0 then (some ((-100 : Int32) - r1.2.1, pas, r1.2.1, r1.2.2.1, r1.2.2.2.1, r1.2.2.2.2.1, r1.2.2.2.2.2.1, r1.2.2.2.2.2.2.1, fs, fp, r1.2.2.2.2.2.2.2)) else (Option.bind (F_X5_takes pas fs fp r1.2.2.2.2.2.2.2) fun r3 => Option.bind (F_X5_order r3.2.1) fun r4 => some (r4, r3.1, r1.2.1, r1.2.2.1, r1.2.2.2.1, r1.2.2.2.2.1, r1.2.2.2.2.2.1, r1.2.2.2.2.2.2.1, r3.2.1, r3.2.2, r1.2.2.2.2.2.2.2))
def F_X5_fault (len : Int32) (spo : Int32) (kin : Int32) (cam : Int32) (fst : Int32) (lst : Int32) (inr : Int32) (fx : Nat → Int32) (fm : Nat → Int32) (p1 : Int32) : Option (Int32 × Int32 × Int32 × Int32 × Int32 × Int32 × Int32 × (Nat → Int32)) := Option.bind (F_X5_in p1 0 1) fun r1 => if r1 = 0 then (some ((-2), spo, kin, cam, fst, lst, inr, fm)) else (Option.bind (F_X5_isMove len spo kin cam fst lst inr fx fm) fun r3 => if r3.1 = 0 then (if p1 = 0 then (some (r3.2.1, r3.2.1, r3.2.2.1, r3.2.2.2.1, r3.2.2.2.2.1, r3.2.2.2.2.2.1, r3.2.2.2.2.2.2.1, r3.2.2.2.2.2.2.2)) else (some (r3.2.2.1, r3.2.1, r3.2.2.1, r3.2.2.2.1, r3.2.2.2.2.1, r3.2.2.2.2.2.1, r3.2.2.2.2.2.2.1, r3.2.2.2.2.2.2.2))) else (some ((-5), r3.2.1, r3.2.2.1, r3.2.2.2.1, r3.2.2.2.2.1, r3.2.2.2.2.2.1, r3.2.2.2.2.2.2.1, r3.2.2.2.2.2.2.2)))
def F_X5_sell (pas : Int32) (fs : Nat → Int32) (fp : Nat → Int32) (p1 : Int32) : Option (Int32 × Int32 × (Nat → Int32) × (Nat → Int32)) := Option.bind (F_X5_in p1 0 16777215) fun r1 => if r1 = 0 then (some ((-2), pas, fs, fp)) else (ck (ok (24 : Int32) 65) (if (fs (Int32.toNatClampNeg (24 : Int32))) = 12 then (some ((-3), pas, fs, fp)) else (Option.bind (F_X5_records pas fs fp) fun r5 => ck (ok (24 : Int32) 65) (ck (ok ((25 : Int32) + (fs (Int32.toNatClampNeg (24 : Int32)))) 65) (ck (ok ((37 : Int32) + (fs (Int32.toNatClampNeg (24 : Int32)))) 65) (ck (ok (62 : Int32) 65) (nmd ((upd (upd fs (Int32.toNatClampNeg ((25 : Int32) + (fs (Int32.toNatClampNeg (24 : Int32))))) p1) (Int32.toNatClampNeg ((37 : Int32) + (fs (Int32.toNatClampNeg (24 : Int32))))) p1) (Int32.toNatClampNeg (62 : Int32))) fun v10 => Option.bind (F_X5_ones p1) fun r11 => ck (ok (62 : Int32) 65) (ck (ok (24 : Int32) 65) (nmd ((upd (upd (upd fs (Int32.toNatClampNeg ((25 : Int32) + (fs (Int32.toNatClampNeg (24 : Int32))))) p1) (Int32.toNatClampNeg ((37 : Int32) + (fs (Int32.toNatClampNeg (24 : Int32))))) p1) (Int32.toNatClampNeg (62 : Int32)) (v10 + r11)) (Int32.toNatClampNeg (24 : Int32))) fun v14 => ck (ok (24 : Int32) 65) (some (fs (Int32.toNatClampNeg (24 : Int32)), r5.1, upd (upd (upd (upd fs (Int32.toNatClampNeg ((25 : Int32) + (fs (Int32.toNatClampNeg (24 : Int32))))) p1) (Int32.toNatClampNeg ((37 : Int32) + (fs (Int32.toNatClampNeg (24 : Int32))))) p1) (Int32.toNatClampNeg (62 : Int32)) (v10 + r11)) (Int32.toNatClampNeg (24 : Int32)) (v14 + 1), r5.2)))))))))))
def F_X5_punch (pas : Int32) (fs : Nat → Int32) (fp : Nat → Int32) (p1 : Int32) (p2 : Int32) : Option (Int32 × Int32 × (Nat → Int32) × (Nat → Int32)) := Option.bind (F_X5_isTicket fs p1) fun r1 => if r1 = 0 then (some ((-1), pas, fs, fp)) else (Option.bind (F_X5_isPlace p2) fun r3 => if r3 = 0 then (some ((-1), pas, fs, fp)) else (ck (ok ((25 : Int32) + p1) 65) (ck (ok ((37 : Int32) + p1) 65) (nmd ((fs (Int32.toNatClampNeg ((25 : Int32) + p1))) &&& (fs (Int32.toNatClampNeg ((37 : Int32) + p1)))) fun v7 => if (v7 &&& ((1 : Int32) <<< (p2 &&& 31))) = 0 then (Option.bind (F_X5_records pas fs fp) fun r9 => ck (ok ((25 : Int32) + p1) 65) (nmd ((fs (Int32.toNatClampNeg ((25 : Int32) + p1))) ||| ((1 : Int32) <<< (p2 &&& 31))) fun v11 => ck (ok ((25 : Int32) + p1) 65) (ck (ok ((37 : Int32) + p1) 65) (nmd ((upd fs (Int32.toNatClampNeg ((25 : Int32) + p1)) v11) (Int32.toNatClampNeg ((37 : Int32) + p1))) fun v14 => ck (ok ((37 : Int32) + p1) 65) (ck (ok (62 : Int32) 65) (nmd ((upd (upd fs (Int32.toNatClampNeg ((25 : Int32) + p1)) v11) (Int32.toNatClampNeg ((37 : Int32) + p1)) (v14 ||| ((1 : Int32) <<< (p2 &&& 31)))) (Int32.toNatClampNeg (62 : Int32))) fun v17 => ck (ok (62 : Int32) 65) (ck (ok ((25 : Int32) + p1) 65) (nmd ((upd (upd (upd fs (Int32.toNatClampNeg ((25 : Int32) + p1)) v11) (Int32.toNatClampNeg ((37 : Int32) + p1)) (v14 ||| ((1 : Int32) <<< (p2 &&& 31)))) (Int32.toNatClampNeg (62 : Int32)) (v17 + 1)) (Int32.toNatClampNeg ((25 : Int32) + p1))) fun v20 => Option.bind (F_X5_ones v20) fun r21 => some (r21, r9.1, upd (upd (upd fs (Int32.toNatClampNeg ((25 : Int32) + p1)) v11) (Int32.toNatClampNeg ((37 : Int32) + p1)) (v14 ||| ((1 : Int32) <<< (p2 &&& 31)))) (Int32.toNatClampNeg (62 : Int32)) (v17 + 1), r9.2))))))))) else (some ((-5), pas, fs, fp))))))
def F_X5_forge (pas : Int32) (fs : Nat → Int32) (fp : Nat → Int32) (p1 : Int32) (p2 : Int32) (p3 : Int32) : Option (Int32 × Int32 × (Nat → Int32) × (Nat → Int32)) := Option.bind (F_X5_isTicket fs p1) fun r1 => if r1 = 0 then (some ((-1), pas, fs, fp)) else (Option.bind (F_X5_isPlace p2) fun r3 => if r3 = 0 then (some ((-1), pas, fs, fp)) else (ck (ok ((25 : Int32) + p1) 65) (if (((fs (Int32.toNatClampNeg ((25 : Int32) + p1))) >>> (p2 &&& 31)) &&& 1) = 1 then (if (1 : Int32) = p3 then (some ((-5), pas, fs, fp)) else (Option.bind (F_X5_records pas fs fp) fun r18 => ck (ok ((25 : Int32) + p1) 65) (nmd ((fs (Int32.toNatClampNeg ((25 : Int32) + p1))) ^^^ ((1 : Int32) <<< (p2 &&& 31))) fun v20 => ck (ok ((25 : Int32) + p1) 65) (ck (ok (63 : Int32) 65) (nmd ((upd fs (Int32.toNatClampNeg ((25 : Int32) + p1)) v20) (Int32.toNatClampNeg (63 : Int32))) fun v23 => ck (ok (63 : Int32) 65) (Option.bind (F_X5_isFalse (upd (upd fs (Int32.toNatClampNeg ((25 : Int32) + p1)) v20) (Int32.toNatClampNeg (63 : Int32)) (v23 + 1)) p1) fun r25 => if r25 = 0 then (some (0, r18.1, upd (upd fs (Int32.toNatClampNeg ((25 : Int32) + p1)) v20) (Int32.toNatClampNeg (63 : Int32)) (v23 + 1), r18.2)) else (some (1, r18.1, upd (upd fs (Int32.toNatClampNeg ((25 : Int32) + p1)) v20) (Int32.toNatClampNeg (63 : Int32)) (v23 + 1), r18.2)))))))) else (if (0 : Int32) = p3 then (some ((-5), pas, fs, fp)) else (Option.bind (F_X5_records pas fs fp) fun r8 => ck (ok ((25 : Int32) + p1) 65) (nmd ((fs (Int32.toNatClampNeg ((25 : Int32) + p1))) ^^^ ((1 : Int32) <<< (p2 &&& 31))) fun v10 => ck (ok ((25 : Int32) + p1) 65) (ck (ok (63 : Int32) 65) (nmd ((upd fs (Int32.toNatClampNeg ((25 : Int32) + p1)) v10) (Int32.toNatClampNeg (63 : Int32))) fun v13 => ck (ok (63 : Int32) 65) (Option.bind (F_X5_isFalse (upd (upd fs (Int32.toNatClampNeg ((25 : Int32) + p1)) v10) (Int32.toNatClampNeg (63 : Int32)) (v13 + 1)) p1) fun r15 => if r15 = 0 then (some (0, r8.1, upd (upd fs (Int32.toNatClampNeg ((25 : Int32) + p1)) v10) (Int32.toNatClampNeg (63 : Int32)) (v13 + 1), r8.2)) else (some (1, r8.1, upd (upd fs (Int32.toNatClampNeg ((25 : Int32) + p1)) v10) (Int32.toNatClampNeg (63 : Int32)) (v13 + 1), r8.2)))))))))))
def F_X5_mend (pas : Int32) (fs : Nat → Int32) (fp : Nat → Int32) (p1 : Int32) : Option (Int32 × Int32 × (Nat → Int32) × (Nat → Int32)) := Option.bind (F_X5_isTicket fs p1) fun r1 => if r1 = 0 then (some ((-1), pas, fs, fp)) else (Option.bind (F_X5_isFalse fs p1) fun r3 => if r3 = 0 then (some ((-5), pas, fs, fp)) else (Option.bind (F_X5_records pas fs fp) fun r5 => ck (ok ((25 : Int32) + p1) 65) (ck (ok ((37 : Int32) + p1) 65) (nmd ((fs (Int32.toNatClampNeg ((25 : Int32) + p1))) ^^^ (fs (Int32.toNatClampNeg ((37 : Int32) + p1)))) fun v8 => Option.bind (F_X5_ones v8) fun r9 => ck (ok ((37 : Int32) + p1) 65) (ck (ok ((25 : Int32) + p1) 65) (some (r9, r5.1, upd fs (Int32.toNatClampNeg ((25 : Int32) + p1)) (fs (Int32.toNatClampNeg ((37 : Int32) + p1))), r5.2)))))))
def F_X5_turn (pas : Int32) (fs : Nat → Int32) (fp : Nat → Int32) (p1 : Int32) (p2 : Int32) : Option (Int32 × Int32 × (Nat → Int32) × (Nat → Int32)) := Option.bind (F_X5_isTicket fs p1) fun r1 => if r1 = 0 then (some ((-1), pas, fs, fp)) else (Option.bind (F_X5_isPower p2) fun r3 => if r3 = 0 then (some ((-2), pas, fs, fp)) else (Option.bind (F_X5_forward fs p2) fun r5 => if r5 = 0 then (some ((-5), pas, fs, fp)) else (Option.bind (F_X5_records pas fs fp) fun r7 => Option.bind (F_X5_turns fs p1 p2) fun r8 => ck (ok ((25 : Int32) + p1) 65) (some (r8 (Int32.toNatClampNeg ((25 : Int32) + p1)), r7.1, r8, r7.2)))))
def F_X5_stack (pas : Int32) (fs : Nat → Int32) (fp : Nat → Int32) (p1 : Int32) (p2 : Int32) : Option (Int32 × Int32 × (Nat → Int32) × (Nat → Int32)) := Option.bind (F_X5_isTicket fs p1) fun r1 => if r1 = 0 then (some ((-1), pas, fs, fp)) else (Option.bind (F_X5_isOn fs p1) fun r3 => if r3 = p2 then (some ((-5), pas, fs, fp)) else (Option.bind (F_X5_records pas fs fp) fun r5 => ck (ok (49 : Int32) 65) (nmd ((fs (Int32.toNatClampNeg (49 : Int32))) ^^^ ((1 : Int32) <<< (p1 &&& 31))) fun v7 => ck (ok (49 : Int32) 65) (ck (ok (49 : Int32) 65) (nmd ((upd fs (Int32.toNatClampNeg (49 : Int32)) v7) (Int32.toNatClampNeg (49 : Int32))) fun v10 => Option.bind (F_X5_ones v10) fun r11 => some (r11, r5.1, upd fs (Int32.toNatClampNeg (49 : Int32)) v7, r5.2))))))
def F_X5_turnStack_37 : Nat → Int32 → Int32 → Int32 → (Nat → Int32) → (Nat → Int32) → Option (Int32 × Int32 × (Nat → Int32) × (Nat → Int32))
  | 0, _, _, _, _, _ => none
  | n + 1, x1, x2, pas, fs, fp => ck (ok (24 : Int32) 65) (if (fs (Int32.toNatClampNeg (24 : Int32))) ≤ x2 then (ck (ok (49 : Int32) 65) (Option.bind (F_X5_ones (fs (Int32.toNatClampNeg (49 : Int32)))) fun r11 => some (r11, pas, fs, fp))) else (Option.bind (F_X5_isOn fs x2) fun r12 => if r12 = 0 then (F_X5_turnStack_37 n x1 (x2 + 1) pas fs fp) else (Option.bind (F_X5_turns fs x2 x1) fun r14 => F_X5_turnStack_37 n x1 (x2 + 1) pas r14 fp)))
def F_X5_turnStack (pas : Int32) (fs : Nat → Int32) (fp : Nat → Int32) (p1 : Int32) : Option (Int32 × Int32 × (Nat → Int32) × (Nat → Int32)) := Option.bind (F_X5_isPower p1) fun r1 => if r1 = 0 then (some ((-2), pas, fs, fp)) else (ck (ok (49 : Int32) 65) (if (fs (Int32.toNatClampNeg (49 : Int32))) = 0 then (some ((-5), pas, fs, fp)) else (Option.bind (F_X5_forward fs p1) fun r5 => if r5 = 0 then (some ((-5), pas, fs, fp)) else (Option.bind (F_X5_records pas fs fp) fun r7 => F_X5_turnStack_37 10000 p1 0 r7.1 fs r7.2))))
def F_X5_undo_22 (fp : Nat → Int32) : Nat → Int32 → Int32 → (Nat → Int32) → Option (Int32 × Int32 × (Nat → Int32))
  | 0, _, _, _ => none
  | n + 1, x1, pas, fs => if 65 ≤ x1 then (some (pas, pas, fs)) else (ck (ok (((65 : Int32) * pas) + x1) 260) (ck (ok x1 65) (F_X5_undo_22 fp n (x1 + 1) pas (upd fs (Int32.toNatClampNeg x1) (fp (Int32.toNatClampNeg (((65 : Int32) * pas) + x1)))))))
def F_X5_undo (pas : Int32) (fs : Nat → Int32) (fp : Nat → Int32) : Option (Int32 × Int32 × (Nat → Int32)) := if pas = 0 then (some ((-5), pas, fs)) else (F_X5_undo_22 fp 10000 0 (pas - 1) fs)
def F_X5_keep_2 (fs : Nat → Int32) : Nat → Int32 → Int32 → (Nat → Int32) → Option (Int32 × Int32 × (Nat → Int32))
  | 0, _, _, _ => none
  | n + 1, x1, misk, fn => if 65 ≤ x1 then (ck (ok (24 : Int32) 65) (some (fs (Int32.toNatClampNeg (24 : Int32)), 1, fn))) else (ck (ok x1 65) (ck (ok x1 65) (F_X5_keep_2 fs n (x1 + 1) misk (upd fn (Int32.toNatClampNeg x1) (fs (Int32.toNatClampNeg x1))))))
def F_X5_keep (misk : Int32) (fs : Nat → Int32) (fn : Nat → Int32) : Option (Int32 × Int32 × (Nat → Int32)) := F_X5_keep_2 fs 10000 0 misk fn
def F_X5_restore_16 (misk : Int32) (fn : Nat → Int32) : Nat → Int32 → Int32 → (Nat → Int32) → (Nat → Int32) → Option (Int32 × Int32 × (Nat → Int32) × (Nat → Int32))
  | 0, _, _, _, _ => none
  | n + 1, x1, pas, fs, fp => if 65 ≤ x1 then (ck (ok (24 : Int32) 65) (some (fs (Int32.toNatClampNeg (24 : Int32)), pas, fs, fp))) else (ck (ok x1 65) (ck (ok x1 65) (F_X5_restore_16 misk fn n (x1 + 1) pas (upd fs (Int32.toNatClampNeg x1) (fn (Int32.toNatClampNeg x1))) fp)))
def F_X5_restore (pas : Int32) (misk : Int32) (fs : Nat → Int32) (fp : Nat → Int32) (fn : Nat → Int32) : Option (Int32 × Int32 × (Nat → Int32) × (Nat → Int32)) := if misk = 0 then (some ((-5), pas, fs, fp)) else (Option.bind (F_X5_records pas fs fp) fun r2 => F_X5_restore_16 misk fn 10000 0 r2.1 fs r2.2)
def F_X1_init_22 : Nat → Int32 → (Nat → Int32) → (Nat → Int32) → Option ((Nat → Int32) × (Nat → Int32))
  | 0, _, _, _ => none
  | n + 1, x1, ft, fu => if 24 ≤ x1 then (some (ft, fu)) else (if 24 ≤ (x1 + 1) then (ck (ok x1 24) (ck (ok (0 : Int32) 24) (F_X1_init_22 n (x1 + 1) (upd ft (Int32.toNatClampNeg x1) 0) (upd fu (Int32.toNatClampNeg (0 : Int32)) x1)))) else (ck (ok x1 24) (ck (ok (x1 + 1) 24) (F_X1_init_22 n (x1 + 1) (upd ft (Int32.toNatClampNeg x1) (x1 + 1)) (upd fu (Int32.toNatClampNeg (x1 + 1)) x1)))))
def F_X1_init : Option ((Nat → Int32) × (Nat → Int32)) := F_X1_init_22 10000 0 (fun _ => 0) (fun _ => 0)
def F_X5_init_47 : Nat → Int32 → (Nat → Int32) → Option ((Nat → Int32))
  | 0, _, _ => none
  | n + 1, x1, fs => if 24 ≤ x1 then (some fs) else (ck (ok ((0 : Int32) + x1) 65) (F_X5_init_47 n (x1 + 1) (upd fs (Int32.toNatClampNeg ((0 : Int32) + x1)) ((x1 + 1) - (x1 + 1) / 24 * 24))))
def F_X5_init : Option ((Nat → Int32)) := F_X5_init_47 10000 0 (fun _ => 0)
end
section
theorem ws_nil (D : va_G) (H : Heap) : va_P D vwCl [] H := fun k q h => by simp at h
theorem sw_out5 {x : Int32} (h0 : ¬ x = 0) (h1 : ¬ x = 1) (h2 : ¬ x = 2) (h3 : ¬ x = 3) (h4 : ¬ x = 4) : x.toInt < 0 ∨ 4 < x.toInt := by
  have h0 := lv_neT (a := 0) h0 rfl; have h1 := lv_neT (a := 1) h1 rfl; have h2 := lv_neT (a := 2) h2 rfl; have h3 := lv_neT (a := 3) h3 rfl; have h4 := lv_neT (a := 4) h4 rfl
  omega
theorem sw_out9 {x : Int32} (h0 : ¬ x = 0) (h1 : ¬ x = 1) (h2 : ¬ x = 2) (h3 : ¬ x = 3) (h4 : ¬ x = 4) (h5 : ¬ x = 5) (h6 : ¬ x = 6) (h7 : ¬ x = 7) (h8 : ¬ x = 8) : x.toInt < 0 ∨ 8 < x.toInt := by
  have h0 := lv_neT (a := 0) h0 rfl; have h1 := lv_neT (a := 1) h1 rfl; have h2 := lv_neT (a := 2) h2 rfl; have h3 := lv_neT (a := 3) h3 rfl; have h4 := lv_neT (a := 4) h4 rfl
  have h5 := lv_neT (a := 5) h5 rfl; have h6 := lv_neT (a := 6) h6 rfl; have h7 := lv_neT (a := 7) h7 rfl; have h8 := lv_neT (a := 8) h8 rfl
  omega
theorem sw_out11 {x : Int32} (h0 : ¬ x = 0) (h1 : ¬ x = 1) (h2 : ¬ x = 2) (h3 : ¬ x = 3) (h4 : ¬ x = 4) (h5 : ¬ x = 5) (h6 : ¬ x = 6) (h7 : ¬ x = 7) (h8 : ¬ x = 8) (h9 : ¬ x = 9) (h10 : ¬ x = 10) : x.toInt < 0 ∨ 10 < x.toInt := by
  have h0 := lv_neT (a := 0) h0 rfl; have h1 := lv_neT (a := 1) h1 rfl; have h2 := lv_neT (a := 2) h2 rfl; have h3 := lv_neT (a := 3) h3 rfl; have h4 := lv_neT (a := 4) h4 rfl
  have h5 := lv_neT (a := 5) h5 rfl; have h6 := lv_neT (a := 6) h6 rfl; have h7 := lv_neT (a := 7) h7 rfl; have h8 := lv_neT (a := 8) h8 rfl; have h9 := lv_neT (a := 9) h9 rfl; have h10 := lv_neT (a := 10) h10 rfl
  omega
def RqM (l : Launch) (G : gG) (y : MethodName) (c : ByteArray) (n : Nat) (rt : FieldType) (rm : Room) (ws : va_W) (av : List Value) (res : Option Nat) : Prop :=
  Met l y (wq y c n (some rt)) rm (gPc G ws av) (va_Sq (fun x => x = res)) 0 0 (fun _ => False)
theorem rdQ {p : Program} {l : Launch} {e : Env} {R : Room} {s : State} {m : MethodId} {args : Array Value} {below : List Frame} {meth : Method} {c : Code} {H : Heap} {locs : List Loc} {cells slots : Nat} {Q : State → Prop}
    {cc : ByteArray} {nL pc : Nat} {own : String} {G : gG} {ls : Array Slot} {rest st0 : List Value} {C : String} {y : MethodName} {bytes : ByteArray} {maxL : Nat} {rt : FieldType} {rm : Room} {ws : va_W} {res : Option Nat} {b a : Nat} {As : List Value} {index : Nat}
    (S : CallFix p m c cc nL s args T0 own) (hK : gK G s) (hM : RqM l G y bytes maxL rt rm ws (.ref b :: As) res) (hi : mIn C y bytes maxL (some rt) As.length) (hln : Cond.methodLink own index y ∈ T0)
    (hz : rm.cells = 0 ∧ rm.slots = 0 ∧ rm.frames + 1 ≤ R.frames ∧ 8 + (maxL + 11) + rm.locals ≤ R.locals) (hP : va_P G.1 vwCl ws H) {ci : Nat} {fs : List Value} {q : vw_C} (hc : vwCl[ci]? = some q) (hqC : q.1 = C) (he : ws[0]? = some (b, .inr (ci, fs)))
    (hst : st0 = As.reverse ++ .ref b :: rest) (hsz : ls.size = nL) (hrest : (rest.map fun v => v.category).sum ≤ 8) (hf : cells ≤ R.cells ∧ slots ≤ R.slots) (hdg : decode cc pc = .ok (.invokevirtual index, 3)) (hres : res = some a)
    (kk : W p l e R s m args below meth c H locs cells slots Q (F0 m (pc + 3) ls (.ref a :: rest))) : W p l e R s m args below meth c H locs cells slots Q (F0 m pc ls st0) := by
  subst hqC
  subst hres
  refine va_csq (run_toCall (va_runV S hM (cwV As.length S.2.2.2.2 (gV hi hln) rfl hz.1 hz.2.1 hi.2.2.2.2 hz.2.2) ⟨gPc_blind, va_recv hK.1 hP hc he, fun U hU hW => ⟨rfl, by rw [hU]; exact hP, hK.warm hW⟩⟩ rfl rfl hsz hst (lv_room hrest) hdg hf)) (fun r h => by rw [h]; exact kk)
theorem Met.ofWF {y : MethodName} {ws ws' : List Cond} {rm : Room} {l : Launch} {Pc : Array Value → State → Prop} {Qc : Array Value → State → Outcome → State → Prop} {mc ms : Nat} {free : Addr → Prop} {cc : ByteArray} {maxL : Nat} {ret : Option FieldType}
    (hy : plainFor y = true) (hw : ws = Cond.code y cc maxL ret :: ws')
    (body : ∀ p e s m args below meth c s₁, BodyLoose p l y (headSpec ws rm) cc maxL ret e s m args below meth c s₁ → c.maxLocals = maxL → Pc args s →
      W p l e (headSpec ws rm).room s m args below meth c s.heap [] 0 0 (MQ below Qc args s mc ms free) (entryFrame m args maxL)) : Met l y ws rm Pc Qc mc ms free := by
  refine MetFree.of_bodySF (code := cc) (maxLocals := maxL) (ret := ret) hy ?_ ?_
  · intro args s m h hn
    obtain ⟨meth, c, h1, h2, h3, h4, h5, h6, -, -⟩ := Cond.code_spec hn (atoms_spec (ws := ws) h _ (by rw [hw]; exact List.mem_cons_self))
    exact ⟨meth, c, h1, h2, h3, h4, h5, h6⟩
  · intro p e s m args below meth c s₁ B hml hP _
    have hh0 : s₁.heap = s.heap := by rw [B.state]; rfl
    obtain ⟨t, a1, o, b1, b2, b3⟩ := body p e s m args below meth c s₁ B hml hP s₁ hh0 (Stand.of_body B)
    exact ⟨t, o, a1, b1, b2, ⟨b3.1, b3.2⟩⟩
theorem ofRF {l : Launch} {G : gG} {y : MethodName} {cc : ByteArray} {nL : Nat} {rt : FieldType} {rm : Room} {ws : va_W} {av : List Value} {res : Int32} (hy : plainFor y = true) (hav : (lg_sl av).length ≤ nL)
    (k : ∀ (p : Program) (e : Env) (s : State) (m : MethodId) (below : List Frame) (meth : Method) (c : Code) (ls : Array Slot), CallFix p m c cc nL s av.toArray T0 y.cls → meth.sig.returnType = some rt → meth.locks = false → gK G s → va_P G.1 vwCl ws s.heap → lv_has ls nL (lv_args 0 av) →
      W p l e rm s m av.toArray below meth c s.heap [] 0 0 (MQ below (vp_Si (fun x => x = res)) av.toArray s 0 0 (fun _ => False)) (F0 m 0 ls [])) : RdM l G y cc nL rt rm ws av res := by
  refine Met.ofWF (cc := cc) (maxL := nL) (ret := some rt) hy rfl ?_
  intro p e s m args below meth c s₁ B hml hv
  obtain ⟨rfl, hP, hK⟩ := hv
  have hts := atoms_spec (ws := wq y cc nL (some rt)) B.pre
  rw [lg_entry_eq]
  exact k p e s m below meth c _ ⟨B.exec, B.bytes, hml, findClass_of_methodNamed B.named, fun w h => hts w (List.mem_cons_of_mem _ h)⟩ B.returns B.notSynchronized hK hP (lv_entry av hav)
end
section
/-! constructors: what they make has addresses that come with the answer -/
abbrev rmc (f l k n : Nat) : Room := { frames := f, cells := k, slots := n, locals := l }
def adr (l : List Nat) : Nat → Nat := fun k => l.getD k 0
def gQc (G : gG) (W' : (Nat → Nat) → va_W) (A : Nat → Prop) : Array Value → State → Outcome → State → Prop := va_Qv (fun _ : Nat → Nat => True) (fun u t => va_P G.1 vwCl (W' u) t.heap ∧ va_D A (W' u)) A
def CtM (l : Launch) (G : gG) (y : MethodName) (c : ByteArray) (n : Nat) (rm : Room) (ws : va_W) (sz : Nat) (av : List Value) (W' : (Nat → Nat) → va_W) (mc ms : Nat) : Prop :=
  Met l y (wq y c n none) rm (gPw G ws sz av) (gQc G W' (va_A ws sz)) mc ms (va_A ws sz)
section CT
variable {p : Program} {l : Launch} {e : Env} {R : Room} {s : State} {m : MethodId} {args : Array Value} {below : List Frame} {meth : Method} {c : Code} {H : Heap} {locs : List Loc} {cells slots : Nat} {Q : State → Prop}
variable {cc : ByteArray} {nL pc : Nat} {own : String} {G : gG} {ls : Array Slot} {rest st0 : List Value}
variable {y : MethodName} {bytes : ByteArray} {maxL : Nat} {rm : Room} {ws : va_W} {b : Nat} {As : List Value} {index : Nat} {A0 : Nat → Prop} {H0 : Heap}
/-- a call of a constructor, behind 'new': its object is the world's last cell -/
theorem ctI {ws0 wr : va_W} {W' : (Nat → Nat) → va_W} {mc ms : Nat} (S : CallFix p m c cc nL s args T0 own) (hK : gK G s) (hM : CtM l G y bytes maxL rm ws H.size (.ref b :: As) W' mc ms) (hi : mCt y bytes maxL As.length) (hln : Cond.methodLink own index y ∈ T0)
    (hz : rm.cells = mc ∧ rm.slots = ms ∧ rm.frames + 1 ≤ R.frames ∧ 8 + (maxL + 11) + rm.locals ≤ R.locals)
    (hP : va_P G.1 vwCl ws0 H) (hD : va_D A0 ws0) (hS : va_S A0 H0 H locs) (hA : ∀ q, H0.size ≤ q → A0 q) (isC isR : List Nat) (hC : isC.map (fun i => ws0[i]?) = ws.map some) (hR : isR.map (fun i => ws0[i]?) = wr.map some) (hn : va_nd isR = true) (hdis : ∀ i ∈ isR, i ∉ isC) (hcn : va_nd isC = true)
    (hst : st0 = As.reverse ++ .ref b :: rest) (hsz : ls.size = nL) (hrest : (rest.map fun v => v.category).sum ≤ 8) (hf : cells + mc ≤ R.cells ∧ slots + ms ≤ R.slots) (hdg : decode cc pc = .ok (.invokespecial index, 3))
    (kk : ∀ (u : Nat → Nat) (H1 : Heap) (locs1 : List Loc), va_P G.1 vwCl (wr ++ W' u) H1 → va_D A0 (wr ++ W' u) → va_S A0 H0 H1 locs1 → W p l e R s m args below meth c H1 locs1 (cells + mc) (slots + ms) Q (F0 m (pc + 3) ls rest)) : W p l e R s m args below meth c H locs cells slots Q (F0 m pc ls st0) := by
  have hPc : va_P G.1 vwCl ws H := hP.sub isC (fm_of_map hC)
  have hDc : va_D (fun _ => True) ws := (hD.sub isC hcn hC).weaken (fun _ _ _ _ => trivial)
  have hF : ∀ q, va_A ws H.size q → A0 q := va_free hD hS hA isC hC
  refine va_callv (va_runI S hM (cwI As.length S.2.2.2.2 (gIn (wq_in hi.1)) rfl hz.1 hz.2.1 (S.2.2.2.2 _ hi.2.2.1) (S.2.2.2.2 _ hln) (S.2.2.2.2 _ hi.2.1) hi.2.2.2.1 hi.2.2.2.2 hz.2.2) ⟨gPw_blind, fun U hU hW => ⟨rfl, by rw [hU], by rw [hU]; exact hPc, hK.warm hW, hDc⟩⟩ rfl rfl hsz hst (lv_room hrest) hdg hf) hS (fun q _ h => hF q h) hF (fun u t H1 locs1 ht _ _ hB _ hk1 hS1 => ?_)
  obtain ⟨hP1, hD1⟩ := hB
  rw [ht] at hP1
  obtain ⟨hPj, hDj⟩ := va_join hP hD isC isR hC hR hn hdis hk1 hF hP1 hD1
  exact kk u H1 locs1 hPj hDj hS1
theorem nwI (S : CallFix p m c cc nL s args T0 own) (hK : gK G s) (hP : va_P G.1 vwCl ws H) (hD : va_D A0 ws) (hS : va_S A0 H0 H locs) (hA : ∀ q, H0.size ≤ q → A0 q) (harr : Cond.arrayClass .int ∈ T0) {n : Int32} {N' : Nat} (hn : ¬ n < 0) (hN : n.toNatClampNeg = N') (hbytes : N' * 4 ≤ 536870912) (hcells : cells + 1 ≤ R.cells) (hslots : slots + N' ≤ R.slots) (hdg : decode cc pc = .ok (.newarray .int, 2))
    (kk : ∀ (q : Nat) (H1 : Heap), va_P G.1 vwCl (ws ++ [(q, .inl (G.2.2.1, N', .inl (fun _ => 0)))]) H1 → va_D A0 (ws ++ [(q, .inl (G.2.2.1, N', .inl (fun _ => 0)))]) → va_S A0 H0 H1 locs → W p l e R s m args below meth c H1 locs (cells + 1) (slots + N') Q (F0 m (pc + 2) ls (.ref q :: rest))) : W p l e R s m args below meth c H locs cells slots Q (F0 m pc ls (.int n :: rest)) := by
  refine va_newa (atype := .int) (ty := .int) (a0 := (N', .inl (fun _ => 0))) S.1 S.2.1 (S.2.2.2.2 _ harr) rfl hK.1 hP hD hS hA (fun cA => rfl) hn hN hbytes hcells hslots hdg (fun q cA H1 hK1 hP1 hD1 hS1 => ?_)
  have e : cA = G.2.2.1 := Option.some.inj ((hK1.2 3 _ rfl).2.symm.trans (hK1.2 1 _ rfl).2)
  rw [e] at hP1 hD1
  exact kk q H1 hP1 hD1 hS1
theorem nwC (S : CallFix p m c cc nL s args T0 own) (hK : gK G s) (hP : va_P G.1 vwCl ws H) (hD : va_D A0 ws) (hS : va_S A0 H0 H locs) (hA : ∀ q, H0.size ≤ q → A0 q) (harr : Cond.arrayClass .char ∈ T0) {n : Int32} {N' : Nat} (hn : ¬ n < 0) (hN : n.toNatClampNeg = N') (hbytes : N' * 2 ≤ 536870912) (hcells : cells + 1 ≤ R.cells) (hslots : slots + N' ≤ R.slots) (hdg : decode cc pc = .ok (.newarray .char, 2))
    (kk : ∀ (q : Nat) (H1 : Heap), va_P G.1 vwCl (ws ++ [(q, .inl (G.2.1, N', .inl (fun _ => 0)))]) H1 → va_D A0 (ws ++ [(q, .inl (G.2.1, N', .inl (fun _ => 0)))]) → va_S A0 H0 H1 locs → W p l e R s m args below meth c H1 locs (cells + 1) (slots + N') Q (F0 m (pc + 2) ls (.ref q :: rest))) : W p l e R s m args below meth c H locs cells slots Q (F0 m pc ls (.int n :: rest)) := by
  refine va_newa (atype := .char) (ty := .char) (a0 := (N', .inl (fun _ => 0))) S.1 S.2.1 (S.2.2.2.2 _ harr) rfl hK.1 hP hD hS hA (fun cA => rfl) hn hN hbytes hcells hslots hdg (fun q cA H1 hK1 hP1 hD1 hS1 => ?_)
  have e : cA = G.2.1 := Option.some.inj ((hK1.2 3 _ rfl).2.symm.trans (hK1.2 0 _ rfl).2)
  rw [e] at hP1 hD1
  exact kk q H1 hP1 hD1 hS1
theorem nwS (S : CallFix p m c cc nL s args T0 own) (hK : gK G s) (hP : va_P G.1 vwCl ws H) (hD : va_D A0 ws) (hS : va_S A0 H0 H locs) (hA : ∀ q, H0.size ≤ q → A0 q) (hcl : Cond.classLink own index RX3 ∈ T0) {n : Int32} {N' : Nat} (hn : ¬ n < 0) (hN : n.toNatClampNeg = N') (hbytes : N' * 4 ≤ 536870912) (hcells : cells + 1 ≤ R.cells) (hslots : slots + N' ≤ R.slots) (hdg : decode cc pc = .ok (.anewarray index, 3))
    (kk : ∀ (q : Nat) (H1 : Heap), va_P G.1 vwCl (ws ++ [(q, .inl (G.2.2.2, N', .inr (.inr (.inr (.inr (fun _ => none))))))]) H1 → va_D A0 (ws ++ [(q, .inl (G.2.2.2, N', .inr (.inr (.inr (.inr (fun _ => none))))))]) → va_S A0 H0 H1 locs → W p l e R s m args below meth c H1 locs (cells + 1) (slots + N') Q (F0 m (pc + 3) ls (.ref q :: rest))) : W p l e R s m args below meth c H locs cells slots Q (F0 m pc ls (.int n :: rest)) := by
  refine va_newq S.1 S.2.1 S.2.2.2.1 (S.2.2.2.2 _ hcl) hK.2.2.2 hK.1 hP hD hS hA hn hN hbytes hcells hslots hdg (fun q cA H1 hK1 hP1 hD1 hS1 => ?_)
  have e : cA = G.2.2.2 := by
    obtain ⟨_, _, _, _, _, h3⟩ := (hK1.2 3 _ rfl).2
    obtain ⟨_, _, _, _, _, h4⟩ := (hK1.2 2 _ rfl).2
    exact Option.some.inj (h3.symm.trans h4)
  rw [e] at hP1 hD1
  exact kk q H1 hP1 hD1 hS1
/-- 'new' -/
theorem nwO (S : CallFix p m c cc nL s args T0 own) (hK : gK G s) {C : String} {T : u_T} {N ci : Nat} (hin : ∀ w ∈ u_ws C T N, w ∈ T0) (ty : Nat → FieldType) (hty : ∀ k, k < N → parseFieldDescriptor (T k).2.2.1 = some (ty k)) (hcl : Cond.classLink own index C ∈ T0) (hinst : Cond.instantiable C N ∈ T0) (hini : Cond.initialized C ∈ T0)
    (hP : va_P G.1 vwCl ws H) (hD : va_D A0 ws) (hS : va_S A0 H0 H locs) (hA : ∀ q, H0.size ≤ q → A0 q) (hc : vwCl[ci]? = some (C, T, N)) {fs : List Value} (hfs : ∀ j, j < N → defaultValue (ty j) = vp_V fs j) (hcells : cells + 1 ≤ R.cells) (hslots : slots + N ≤ R.slots) (hdg : decode cc pc = .ok (.new index, 3))
    (kk : ∀ (q : Nat) (H1 : Heap), va_P G.1 vwCl (ws ++ [(q, .inr (ci, fs))]) H1 → va_D A0 (ws ++ [(q, .inr (ci, fs))]) → va_S A0 H0 H1 locs → W p l e R s m args below meth c H1 locs (cells + 1) (slots + N) Q (F0 m (pc + 3) ls (.ref q :: rest))) : W p l e R s m args below meth c H locs cells slots Q (F0 m pc ls rest) :=
  va_new S.1 S.2.1 S.2.2.2.2 hin ty hty S.2.2.2.1 (S.2.2.2.2 _ hcl) (S.2.2.2.2 _ hinst) (S.2.2.2.2 _ hini) hK.1 hP hD hS hA hc hfs hcells hslots hdg kk
/-- a final field is written, in a constructor -/
theorem pfF (S : CallFix p m c cc nL s args T0 own) (hK : gK G s) (hin2 : meth.name = "<init>") {C : String} {T : u_T} {N ci : Nat} {a : Nat} (hin : ∀ w ∈ u_ws C T N, w ∈ T0) (ty0 : Nat → FieldType) (hty : ∀ k, k < N → parseFieldDescriptor (T k).2.2.1 = some (ty0 k)) (hnm : ∀ a, a < N → ∀ b, b < N → a ≠ b → (T a).2.1 ≠ (T b).2.1) (hP : va_P G.1 vwCl ws H) (hD : va_D A0 ws) (hS : va_S A0 H0 H locs) (q0 : Nat) {fs : List Value} (he : ws[q0]? = some (a, .inr (ci, fs))) (hc : vwCl[ci]? = some (C, T, N)) (k : Nat) (hk : k < N) (hlink : Cond.fieldLink own index (T k).1 (T k).2.1 (T k).2.2.1 ∈ T0) (hfin : (T k).2.2.2 = true) (hdecl : (T k).1 = own) {v : Value} (hn : narrow (ty0 k) v = v) (hfit : fits (ty0 k) v = true) (hl : k < fs.length) (ws1 : va_W) (hw1 : ws.set q0 (a, .inr (ci, fs.set k v)) = ws1) (hdg : decode cc pc = .ok (.putfield index, 3))
    (kk : ∀ (H1 : Heap) (locs1 : List Loc), va_P G.1 vwCl ws1 H1 → va_D A0 ws1 → va_S A0 H0 H1 locs1 → W p l e R s m args below meth c H1 locs1 cells slots Q (F0 m (pc + 3) ls rest)) : W p l e R s m args below meth c H locs cells slots Q (F0 m pc ls (v :: .ref a :: rest)) := by
  subst hw1
  exact va_putF S.1 S.2.1 S.2.2.2.2 hin ty0 hty hnm S.2.2.2.1 hK.1 hP hD hS q0 he hc k hk (S.2.2.2.2 _ hlink) (fun _ h9 => h9) hfin hin2 hdecl (hty k hk) hn hfit hl hdg kk
/-- a State goes into the history's row -/
theorem astS (S : CallFix p m c cc nL s args T0 own) (hK : gK G s) (hP : va_P G.1 vwCl ws H) (hD : va_D A0 ws) (hS : va_S A0 H0 H locs) (q0 qk : Nat) {a n v : Nat} {vs : List Value} {f : Nat → Option Nat} (ha : ws[q0]? = some (a, .inl (G.2.2.2, n, .inr (.inr (.inr (.inr f)))))) (hv : ws[qk]? = some (v, .inr (3, vs))) {i : Int32} (hin : vp_in i n) (ws1 : va_W) (hw1 : ws.set q0 (a, .inl (G.2.2.2, n, .inr (.inr (.inr (.inr (va_up f i.toNatClampNeg (some v))))))) = ws1) (hdg : decode cc pc = .ok (.aastore, 1))
    (kk : ∀ (H1 : Heap) (locs1 : List Loc), va_P G.1 vwCl ws1 H1 → va_D A0 ws1 → va_S A0 H0 H1 locs1 → W p l e R s m args below meth c H1 locs1 cells slots Q (F0 m (pc + 1) ls rest)) : W p l e R s m args below meth c H locs cells slots Q (F0 m pc ls (.ref v :: .int i :: .ref a :: rest)) := by
  subst hw1
  exact va_astq (r := (RX3, TX3, 9)) S.1 S.2.1 hK.1 hP hD hS q0 2 qk 3 ha rfl hv rfl hin hdg kk
/-- Object() -/
theorem obI (S : CallFix p m c cc nL s args T0 own) (hl : Cond.methodLink own index objectInit ∈ T0) (hi : Cond.instanceMethod objectInit ∈ T0) (hc : Cond.code objectInit ⟨#[0xb1]⟩ 1 none ∈ T0) (hsz : ls.size = nL) {a : Nat} (hd : decode cc pc = .ok (.invokespecial index, 3)) (hframes : 1 ≤ R.frames) (hlocals : 12 ≤ R.locals)
    (kk : W p l e R s m args below meth c H locs cells slots Q (F0 m (pc + 3) ls [])) : W p l e R s m args below meth c H locs cells slots Q (F0 m pc ls [.ref a]) :=
  W.objInit S.1 S.2.1 S.2.2.2.1 (S.2.2.2.2 _ hl) (S.2.2.2.2 _ hi) (S.2.2.2.2 _ hc) rfl (hsz.trans S.2.2.1.symm) rfl hd hframes (by show 2 * 0 + 0 + 12 ≤ _; omega) kk
theorem retC (S : CallFix p m c cc nL s args T0 own) (hr : meth.sig.returnType = none) (hlk : meth.locks = false) {W' : (Nat → Nat) → va_W} {A : Nat → Prop} {mc ms : Nat} (u : Nat → Nat) (hc : cells ≤ mc) (hs : slots ≤ ms) (hP : va_P G.1 vwCl (W' u) H) (hD : va_D A (W' u)) (hS : va_S A s.heap H locs) (hdg : decode cc pc = .ok (.return_, 1)) :
    W p l e R s m args below meth c H locs cells slots (MQ below (gQc G W' A) args s mc ms A) (F0 m pc ls []) :=
  W.widen hc hs (W.vret S.1 S.2.1 hr (fun t ht _ => ⟨⟨u, rfl, trivial, by rw [ht]; exact hP, hD⟩, hS.F ht⟩) hS.2.2 hdg hlk)
end CT
theorem ofCt {l : Launch} {G : gG} {y : MethodName} {cc : ByteArray} {nL : Nat} {rm : Room} {ws : va_W} {av : List Value} {W' : (Nat → Nat) → va_W} {mc ms sz : Nat} (hy : plainName y.cls = true) (hav : (lg_sl av).length ≤ nL)
    (k : ∀ (p : Program) (e : Env) (s : State) (m : MethodId) (below : List Frame) (meth : Method) (c : Code) (ls : Array Slot) (A : Nat → Prop), CallFix p m c cc nL s av.toArray T0 y.cls → meth.sig.returnType = none → meth.locks = false → meth.name = y.name → gK G s → va_P G.1 vwCl ws s.heap → va_D A ws → va_S A s.heap s.heap [] → (∀ q : Nat, s.heap.size ≤ q → A q) → lv_has ls nL (lv_args 0 av) →
      W p l e rm s m av.toArray below meth c s.heap [] 0 0 (MQ below (gQc G W' A) av.toArray s mc ms A) (F0 m 0 ls [])) : CtM l G y cc nL rm ws sz av W' mc ms := by
  refine Met.ofW (cc := cc) (maxL := nL) (ret := none) hy rfl ?_
  intro p e s m args below meth c s₁ B hml hv
  obtain ⟨rfl, hsz, hP, hK, hD⟩ := hv
  subst hsz
  have hts := atoms_spec (ws := wq y cc nL none) B.pre
  rw [lg_entry_eq]
  exact k p e s m below meth c _ _ ⟨B.exec, B.bytes, hml, findClass_of_methodNamed B.named, fun w h => hts w (List.mem_cons_of_mem _ h)⟩ B.returns B.notSynchronized (name_of_methodNamed B.named B.method).1 hK hP hD.self va_S.rf (fun q h => Or.inr h) (lv_entry av hav)
theorem df1 : ∀ j, j < 2 → defaultValue (tyX1 j) = vp_V [.null, .null] j := fun j hj => by rcases (show j = 0 ∨ j = 1 by omega) with rfl | rfl <;> rfl
theorem df0 : ∀ j, j < 3 → defaultValue (tyX0 j) = vp_V [.null, .int 0, .int 0] j := fun j hj => by rcases (show j = 0 ∨ j = 1 ∨ j = 2 by omega) with rfl | rfl | rfl <;> rfl
theorem df4 : ∀ j, j < 5 → defaultValue (tyX4 j) = vp_V [.null, .null, .int 0, .null, .null] j := fun j hj => by rcases (show j = 0 ∨ j = 1 ∨ j = 2 ∨ j = 3 ∨ j = 4 by omega) with rfl | rfl | rfl | rfl | rfl <;> rfl
theorem df3 : ∀ j, j < 9 → defaultValue (tyX3 j) = vp_V [.null, .null, .null, .null, .int 0, .int 0, .int 0, .int 0, .int 0] j := fun j hj => by rcases (show j = 0 ∨ j = 1 ∨ j = 2 ∨ j = 3 ∨ j = 4 ∨ j = 5 ∨ j = 6 ∨ j = 7 ∨ j = 8 by omega) with rfl | rfl | rfl | rfl | rfl | rfl | rfl | rfl | rfl <;> rfl
theorem df2 : ∀ j, j < 10 → defaultValue (tyX2 j) = vp_V [.null, .int 0, .null, .int 0, .int 0, .int 0, .int 0, .int 0, .int 0, .int 0] j := fun j hj => by rcases (show j = 0 ∨ j = 1 ∨ j = 2 ∨ j = 3 ∨ j = 4 ∨ j = 5 ∨ j = 6 ∨ j = 7 ∨ j = 8 ∨ j = 9 by omega) with rfl | rfl | rfl | rfl | rfl | rfl | rfl | rfl | rfl | rfl <;> rfl
theorem df5 : ∀ j, j < 14 → defaultValue (tyX5 j) = vp_V [.null, .null, .int 0, .null, .int 0, .null, .int 0, .null, .int 0, .int 0, .int 0, .int 0, .int 0, .int 0] j := fun j hj => by rcases (show j = 0 ∨ j = 1 ∨ j = 2 ∨ j = 3 ∨ j = 4 ∨ j = 5 ∨ j = 6 ∨ j = 7 ∨ j = 8 ∨ j = 9 ∨ j = 10 ∨ j = 11 ∨ j = 12 ∨ j = 13 by omega) with rfl | rfl | rfl | rfl | rfl | rfl | rfl | rfl | rfl | rfl | rfl | rfl | rfl | rfl <;> rfl
end
section
set_option maxHeartbeats 4000000 in
set_option maxRecDepth 100000 in
theorem c_J6_bitCount_0f7a4 (l : Launch) (G : gG) (p0 : Int32) (res : Int32) (h : F_J6_bitCount_0f7a4 p0 = some res) : RdM l G yJ6_bitCount_0f7a4 cJ6_bitCount_0f7a4 1 .int (rmk 0 0) [] [.int p0] res := by
  refine ofR (by decide) (Nat.le_of_ble_eq_true rfl) ?_
  intro p e s m below meth c ls S hr hlk hK hP hl
  have S : CallFix p m c cJ6_bitCount_0f7a4 1 s ([.int p0] : List Value).toArray T0 RJ6 := S
  obtain ⟨hx, hb, hml, hown, hts⟩ := id S
  have hl : lv_has ls 1 [(0, .int p0)] := hl
  rw [F_J6_bitCount_0f7a4] at h
  refine lv_iload_n hx hb dJ6_bitCount_0f7a4_0 rfl (lv_at hl 0 rfl) ?_
  refine lv_iload_n hx hb dJ6_bitCount_0f7a4_1 rfl (lv_at hl 0 rfl) ?_
  refine lv_iconst (v := 1) hx hb dJ6_bitCount_0f7a4_2 (by decide) ?_
  refine lv_iushr (v := (p0.toUInt32 >>> ((1 : Int32).toUInt32 &&& Int32.toUInt32 31)).toInt32) hx hb dJ6_bitCount_0f7a4_3 rfl ?_
  refine lv_topi (fun v1 ev1 => ?_)
  replace h := nmd_t ev1 h
  refine lv_ldcw (v := 1431655765) hx hb hown (hts _ q241) dJ6_bitCount_0f7a4_4 ?_
  refine lv_iand hx hb dJ6_bitCount_0f7a4_7 ?_
  refine lv_isub hx hb dJ6_bitCount_0f7a4_8 ?_
  refine lv_istore_n (lv' := [(0, .int (p0 - (v1 &&& 1431655765)))]) hx hb dJ6_bitCount_0f7a4_9 rfl hl (by decide) rfl (fun ls hl => ?_)
  refine lv_iload_n hx hb dJ6_bitCount_0f7a4_10 rfl (lv_at hl 0 rfl) ?_
  refine lv_ldcw (v := 858993459) hx hb hown (hts _ q242) dJ6_bitCount_0f7a4_11 ?_
  refine lv_iand hx hb dJ6_bitCount_0f7a4_14 ?_
  refine lv_iload_n hx hb dJ6_bitCount_0f7a4_15 rfl (lv_at hl 0 rfl) ?_
  refine lv_iconst (v := 2) hx hb dJ6_bitCount_0f7a4_16 (by decide) ?_
  refine lv_iushr (v := ((p0 - (v1 &&& 1431655765)).toUInt32 >>> ((2 : Int32).toUInt32 &&& Int32.toUInt32 31)).toInt32) hx hb dJ6_bitCount_0f7a4_17 rfl ?_
  refine lv_topi (fun v2 ev2 => ?_)
  replace h := nmd_t ev2 h
  refine lv_ldcw (v := 858993459) hx hb hown (hts _ q242) dJ6_bitCount_0f7a4_18 ?_
  refine lv_iand hx hb dJ6_bitCount_0f7a4_21 ?_
  refine lv_iadd hx hb dJ6_bitCount_0f7a4_22 ?_
  refine lv_topi (fun v3 ev3 => ?_)
  replace h := nmd_t ev3 h
  refine lv_istore_n (lv' := [(0, .int v3)]) hx hb dJ6_bitCount_0f7a4_23 rfl hl (by decide) rfl (fun ls hl => ?_)
  refine lv_iload_n hx hb dJ6_bitCount_0f7a4_24 rfl (lv_at hl 0 rfl) ?_
  refine lv_iload_n hx hb dJ6_bitCount_0f7a4_25 rfl (lv_at hl 0 rfl) ?_
  refine lv_iconst (v := 4) hx hb dJ6_bitCount_0f7a4_26 (by decide) ?_
  refine lv_iushr (v := (v3.toUInt32 >>> ((4 : Int32).toUInt32 &&& Int32.toUInt32 31)).toInt32) hx hb dJ6_bitCount_0f7a4_27 rfl ?_
  refine lv_topi (fun v4 ev4 => ?_)
  replace h := nmd_t ev4 h
  refine lv_iadd hx hb dJ6_bitCount_0f7a4_28 ?_
  refine lv_ldcw (v := 252645135) hx hb hown (hts _ q243) dJ6_bitCount_0f7a4_29 ?_
  refine lv_iand hx hb dJ6_bitCount_0f7a4_32 ?_
  refine lv_istore_n (lv' := [(0, .int ((v3 + v4) &&& 252645135))]) hx hb dJ6_bitCount_0f7a4_33 rfl hl (by decide) rfl (fun ls hl => ?_)
  refine lv_iload_n hx hb dJ6_bitCount_0f7a4_34 rfl (lv_at hl 0 rfl) ?_
  refine lv_iload_n hx hb dJ6_bitCount_0f7a4_35 rfl (lv_at hl 0 rfl) ?_
  refine lv_bipush (v := 8) hx hb dJ6_bitCount_0f7a4_36 (by decide) ?_
  refine lv_iushr (v := (((v3 + v4) &&& 252645135).toUInt32 >>> ((8 : Int32).toUInt32 &&& Int32.toUInt32 31)).toInt32) hx hb dJ6_bitCount_0f7a4_38 rfl ?_
  refine lv_topi (fun v5 ev5 => ?_)
  replace h := nmd_t ev5 h
  refine lv_iadd hx hb dJ6_bitCount_0f7a4_39 ?_
  refine lv_istore_n (lv' := [(0, .int (((v3 + v4) &&& 252645135) + v5))]) hx hb dJ6_bitCount_0f7a4_40 rfl hl (by decide) rfl (fun ls hl => ?_)
  refine lv_iload_n hx hb dJ6_bitCount_0f7a4_41 rfl (lv_at hl 0 rfl) ?_
  refine lv_iload_n hx hb dJ6_bitCount_0f7a4_42 rfl (lv_at hl 0 rfl) ?_
  refine lv_bipush (v := 16) hx hb dJ6_bitCount_0f7a4_43 (by decide) ?_
  refine lv_iushr (v := ((((v3 + v4) &&& 252645135) + v5).toUInt32 >>> ((16 : Int32).toUInt32 &&& Int32.toUInt32 31)).toInt32) hx hb dJ6_bitCount_0f7a4_45 rfl ?_
  refine lv_topi (fun v6 ev6 => ?_)
  replace h := nmd_t ev6 h
  refine lv_iadd hx hb dJ6_bitCount_0f7a4_46 ?_
  refine lv_istore_n (lv' := [(0, .int ((((v3 + v4) &&& 252645135) + v5) + v6))]) hx hb dJ6_bitCount_0f7a4_47 rfl hl (by decide) rfl (fun ls hl => ?_)
  refine lv_iload_n hx hb dJ6_bitCount_0f7a4_48 rfl (lv_at hl 0 rfl) ?_
  refine lv_bipush (v := 63) hx hb dJ6_bitCount_0f7a4_49 (by decide) ?_
  refine lv_iand hx hb dJ6_bitCount_0f7a4_51 ?_
  refine lv_topi (fun v7 ev7 => ?_)
  replace h := nmd_t ev7 h
  obtain rfl := Option.some.inj h
  exact retR S hr hlk rfl rfl dJ6_bitCount_0f7a4_52
set_option maxHeartbeats 4000000 in
set_option maxRecDepth 100000 in
theorem c_J9_floorMod_7cf53 (l : Launch) (G : gG) (p0 p1 : Int32) (res : Int32) (h : F_J9_floorMod_7cf53 p0 p1 = some res) : RdM l G yJ9_floorMod_7cf53 cJ9_floorMod_7cf53 3 .int (rmk 0 0) [] [.int p0, .int p1] res := by
  refine ofRF (by decide +kernel) (Nat.le_of_ble_eq_true rfl) ?_
  intro p e s m below meth c ls S hr hlk hK hP hl
  have S : CallFix p m c cJ9_floorMod_7cf53 3 s ([.int p0, .int p1] : List Value).toArray T0 RJ9 := S
  obtain ⟨hx, hb, hml, hown, hts⟩ := id S
  have hl : lv_has ls 3 [(0, .int p0), (1, .int p1)] := hl
  rw [F_J9_floorMod_7cf53] at h
  refine lv_iload_n hx hb dJ9_floorMod_7cf53_0 rfl (lv_at hl 0 rfl) ?_
  refine lv_iload_n hx hb dJ9_floorMod_7cf53_1 rfl (lv_at hl 1 rfl) ?_
  obtain ⟨k1, h⟩ := ck_t h
  refine lv_irem hx hb dJ9_floorMod_7cf53_2 (nz_t k1) ?_
  refine lv_istore_n (lv' := [(2, .int (p0 - p0 / p1 * p1)), (0, .int p0), (1, .int p1)]) hx hb dJ9_floorMod_7cf53_3 rfl hl (by decide) rfl (fun ls hl => ?_)
  refine lv_iload_n hx hb dJ9_floorMod_7cf53_4 rfl (lv_at hl 1 rfl) ?_
  refine lv_iload_n hx hb dJ9_floorMod_7cf53_5 rfl (lv_at hl 2 rfl) ?_
  refine lv_ixor hx hb dJ9_floorMod_7cf53_6 ?_
  refine lv_if_ge (tgt := 18) hx hb dJ9_floorMod_7cf53_7 (by decide) (fun c2 => ?_) (fun c2 => ?_)
  · replace h := if_t c2 h
    refine lv_iload_n hx hb dJ9_floorMod_7cf53_18 rfl (lv_at hl 0 rfl) ?_
    obtain rfl := Option.some.inj h
    exact retR S hr hlk rfl rfl dJ9_floorMod_7cf53_19
  · replace h := if_f c2 h
    refine lv_iload_n hx hb dJ9_floorMod_7cf53_10 rfl (lv_at hl 0 rfl) ?_
    refine lv_if_eq (tgt := 18) hx hb dJ9_floorMod_7cf53_11 (by decide) (fun c3 => ?_) (fun c3 => ?_)
    · replace h := if_t c3 h
      refine lv_iload_n hx hb dJ9_floorMod_7cf53_18 rfl (lv_at hl 0 rfl) ?_
      obtain rfl := Option.some.inj h
      exact retR S hr hlk rfl rfl dJ9_floorMod_7cf53_19
    · replace h := if_f c3 h
      refine lv_iload_n hx hb dJ9_floorMod_7cf53_14 rfl (lv_at hl 0 rfl) ?_
      refine lv_iload_n hx hb dJ9_floorMod_7cf53_15 rfl (lv_at hl 2 rfl) ?_
      refine lv_iadd hx hb dJ9_floorMod_7cf53_16 ?_
      obtain rfl := Option.some.inj h
      exact retR S hr hlk rfl rfl dJ9_floorMod_7cf53_17
set_option maxHeartbeats 4000000 in
set_option maxRecDepth 100000 in
theorem c_X4_isPlace (l : Launch) (G : gG) (p0 : Int32) (res : Int32) (h : F_X4_isPlace p0 = some res) : RdM l G yX4_isPlace cX4_isPlace 1 .boolean (rmk 0 0) [] [.int p0] res := by
  refine ofR (by decide) (Nat.le_of_ble_eq_true rfl) ?_
  intro p e s m below meth c ls S hr hlk hK hP hl
  have S : CallFix p m c cX4_isPlace 1 s ([.int p0] : List Value).toArray T0 RX4 := S
  obtain ⟨hx, hb, hml, hown, hts⟩ := id S
  have hl : lv_has ls 1 [(0, .int p0)] := hl
  rw [F_X4_isPlace] at h
  refine lv_iload_n hx hb dX4_isPlace_0 rfl (lv_at hl 0 rfl) ?_
  refine lv_if_lt (tgt := 14) hx hb dX4_isPlace_1 (by decide) (fun c1 => ?_) (fun c1 => ?_)
  · replace h := if_t c1 h
    refine lv_iconst (v := 0) hx hb dX4_isPlace_14 (by decide) ?_
    obtain rfl := Option.some.inj h
    exact retR S hr hlk rfl rfl dX4_isPlace_15
  · replace h := if_f c1 h
    refine lv_iload_n hx hb dX4_isPlace_4 rfl (lv_at hl 0 rfl) ?_
    refine lv_bipush (v := 24) hx hb dX4_isPlace_5 (by decide) ?_
    refine lv_icmp_ge (tgt := 14) hx hb dX4_isPlace_7 (by decide) (fun c2 => ?_) (fun c2 => ?_)
    · replace h := if_t c2 h
      refine lv_iconst (v := 0) hx hb dX4_isPlace_14 (by decide) ?_
      obtain rfl := Option.some.inj h
      exact retR S hr hlk rfl rfl dX4_isPlace_15
    · replace h := if_f c2 h
      refine lv_iconst (v := 1) hx hb dX4_isPlace_10 (by decide) ?_
      refine lv_goto (tgt := 15) hx hb dX4_isPlace_11 (by decide) ?_
      obtain rfl := Option.some.inj h
      exact retR S hr hlk rfl rfl dX4_isPlace_15
set_option maxHeartbeats 4000000 in
set_option maxRecDepth 100000 in
theorem c_X4_isPower (l : Launch) (G : gG) (p0 : Int32) (res : Int32) (h : F_X4_isPower p0 = some res) : RdM l G yX4_isPower cX4_isPower 1 .boolean (rmk 0 0) [] [.int p0] res := by
  refine ofR (by decide) (Nat.le_of_ble_eq_true rfl) ?_
  intro p e s m below meth c ls S hr hlk hK hP hl
  have S : CallFix p m c cX4_isPower 1 s ([.int p0] : List Value).toArray T0 RX4 := S
  obtain ⟨hx, hb, hml, hown, hts⟩ := id S
  have hl : lv_has ls 1 [(0, .int p0)] := hl
  rw [F_X4_isPower] at h
  refine lv_iload_n hx hb dX4_isPower_0 rfl (lv_at hl 0 rfl) ?_
  refine lv_sipush (v := (-9999)) hx hb dX4_isPower_1 (by decide) ?_
  refine lv_icmp_lt (tgt := 18) hx hb dX4_isPower_4 (by decide) (fun c1 => ?_) (fun c1 => ?_)
  · replace h := if_t c1 h
    refine lv_iconst (v := 0) hx hb dX4_isPower_18 (by decide) ?_
    obtain rfl := Option.some.inj h
    exact retR S hr hlk rfl rfl dX4_isPower_19
  · replace h := if_f c1 h
    refine lv_iload_n hx hb dX4_isPower_7 rfl (lv_at hl 0 rfl) ?_
    refine lv_sipush (v := 9999) hx hb dX4_isPower_8 (by decide) ?_
    refine lv_icmp_gt (tgt := 18) hx hb dX4_isPower_11 (by decide) (fun c2 => ?_) (fun c2 => ?_)
    · replace h := if_t c2 h
      refine lv_iconst (v := 0) hx hb dX4_isPower_18 (by decide) ?_
      obtain rfl := Option.some.inj h
      exact retR S hr hlk rfl rfl dX4_isPower_19
    · replace h := if_f c2 h
      refine lv_iconst (v := 1) hx hb dX4_isPower_14 (by decide) ?_
      refine lv_goto (tgt := 19) hx hb dX4_isPower_15 (by decide) ?_
      obtain rfl := Option.some.inj h
      exact retR S hr hlk rfl rfl dX4_isPower_19
set_option maxHeartbeats 4000000 in
set_option maxRecDepth 100000 in
theorem c_X4_asNumber (l : Launch) (G : gG) (p0 : Int32) (res : Int32) (h : F_X4_asNumber p0 = some res) : RdM l G yX4_asNumber cX4_asNumber 1 .int (rmk 0 0) [] [.int p0] res := by
  refine ofR (by decide) (Nat.le_of_ble_eq_true rfl) ?_
  intro p e s m below meth c ls S hr hlk hK hP hl
  have S : CallFix p m c cX4_asNumber 1 s ([.int p0] : List Value).toArray T0 RX4 := S
  obtain ⟨hx, hb, hml, hown, hts⟩ := id S
  have hl : lv_has ls 1 [(0, .int p0)] := hl
  rw [F_X4_asNumber] at h
  refine lv_iload_n hx hb dX4_asNumber_0 rfl (lv_at hl 0 rfl) ?_
  refine lv_if_eq (tgt := 8) hx hb dX4_asNumber_1 (by decide) (fun c1 => ?_) (fun c1 => ?_)
  · replace h := if_t c1 h
    refine lv_iconst (v := 0) hx hb dX4_asNumber_8 (by decide) ?_
    obtain rfl := Option.some.inj h
    exact retR S hr hlk rfl rfl dX4_asNumber_9
  · replace h := if_f c1 h
    refine lv_iconst (v := 1) hx hb dX4_asNumber_4 (by decide) ?_
    refine lv_goto (tgt := 9) hx hb dX4_asNumber_5 (by decide) ?_
    obtain rfl := Option.some.inj h
    exact retR S hr hlk rfl rfl dX4_asNumber_9
set_option maxHeartbeats 4000000 in
set_option maxRecDepth 100000 in
theorem c_X4_only (l : Launch) (G : gG) (p0 : Int32) (res : Int32) (h : F_X4_only p0 = some res) : RdM l G yX4_only cX4_only 1 .int (rmk 0 0) [] [.int p0] res := by
  refine ofR (by decide) (Nat.le_of_ble_eq_true rfl) ?_
  intro p e s m below meth c ls S hr hlk hK hP hl
  have S : CallFix p m c cX4_only 1 s ([.int p0] : List Value).toArray T0 RX4 := S
  obtain ⟨hx, hb, hml, hown, hts⟩ := id S
  have hl : lv_has ls 1 [(0, .int p0)] := hl
  rw [F_X4_only] at h
  refine lv_iconst (v := 1) hx hb dX4_only_0 (by decide) ?_
  refine lv_iload_n hx hb dX4_only_1 rfl (lv_at hl 0 rfl) ?_
  refine lv_ishl hx hb dX4_only_2 ?_
  obtain rfl := Option.some.inj h
  exact retR S hr hlk rfl rfl dX4_only_3
set_option maxHeartbeats 4000000 in
set_option maxRecDepth 100000 in
theorem c_X4_has (l : Launch) (G : gG) (p0 p1 : Int32) (res : Int32) (h : F_X4_has p0 p1 = some res) : RdM l G yX4_has cX4_has 2 .boolean (rmk 0 0) [] [.int p0, .int p1] res := by
  refine ofR (by decide) (Nat.le_of_ble_eq_true rfl) ?_
  intro p e s m below meth c ls S hr hlk hK hP hl
  have S : CallFix p m c cX4_has 2 s ([.int p0, .int p1] : List Value).toArray T0 RX4 := S
  obtain ⟨hx, hb, hml, hown, hts⟩ := id S
  have hl : lv_has ls 2 [(0, .int p0), (1, .int p1)] := hl
  rw [F_X4_has] at h
  refine lv_iload_n hx hb dX4_has_0 rfl (lv_at hl 0 rfl) ?_
  refine lv_iconst (v := 1) hx hb dX4_has_1 (by decide) ?_
  refine lv_iload_n hx hb dX4_has_2 rfl (lv_at hl 1 rfl) ?_
  refine lv_ishl hx hb dX4_has_3 ?_
  refine lv_iand hx hb dX4_has_4 ?_
  refine lv_if_eq (tgt := 12) hx hb dX4_has_5 (by decide) (fun c1 => ?_) (fun c1 => ?_)
  · replace h := if_t c1 h
    refine lv_iconst (v := 0) hx hb dX4_has_12 (by decide) ?_
    obtain rfl := Option.some.inj h
    exact retR S hr hlk rfl rfl dX4_has_13
  · replace h := if_f c1 h
    refine lv_iconst (v := 1) hx hb dX4_has_8 (by decide) ?_
    refine lv_goto (tgt := 13) hx hb dX4_has_9 (by decide) ?_
    obtain rfl := Option.some.inj h
    exact retR S hr hlk rfl rfl dX4_has_13
set_option maxHeartbeats 4000000 in
set_option maxRecDepth 100000 in
theorem c_X4_lowest (l : Launch) (G : gG) (p0 : Int32) (res : Int32) (h : F_X4_lowest p0 = some res) : RdM l G yX4_lowest cX4_lowest 2 .int (rmk 1 21) [] [.int p0] res := by
  refine ofR (by decide) (Nat.le_of_ble_eq_true rfl) ?_
  intro p e s m below meth c ls S hr hlk hK hP hl
  have S : CallFix p m c cX4_lowest 2 s ([.int p0] : List Value).toArray T0 RX4 := S
  obtain ⟨hx, hb, hml, hown, hts⟩ := id S
  have hl : lv_has ls 2 [(0, .int p0)] := hl
  have L2 : ∀ (n : Nat) (x0 x1 : Int32), F_X4_lowest_2 n x0 x1 = some res → ∀ (ls : Array Slot), lv_has ls 2 [(0, .int x0), (1, .int x1)] → W p l e (rmk 1 21) s m ([.int p0] : List Value).toArray below meth c s.heap [] 0 0 (MQ below (vp_Si (fun x => x = res)) ([.int p0] : List Value).toArray s 0 0 (fun _ => False)) (F0 m 2 ls []) := by
    intro n
    induction n with
    | zero => intro x0 x1 h; exact absurd (show (none : Option (Int32)) = some res from h) (fun q => by cases q)
    | succ n ih =>
      intro x0 x1 h ls hl
      rw [F_X4_lowest_2] at h
      refine lv_iload_n hx hb dX4_lowest_2 rfl (lv_at hl 1 rfl) ?_
      refine lv_bipush (v := 24) hx hb dX4_lowest_3 (by decide) ?_
      refine lv_icmp_ge (tgt := 24) hx hb dX4_lowest_5 (by decide) (fun c1 => ?_) (fun c1 => ?_)
      · replace h := if_t c1 h
        refine lv_bipush (v := (-5)) hx hb dX4_lowest_24 (by decide) ?_
        obtain rfl := Option.some.inj h
        exact retR S hr hlk rfl rfl dX4_lowest_26
      · replace h := if_f c1 h
        refine lv_iload_n hx hb dX4_lowest_8 rfl (lv_at hl 0 rfl) ?_
        refine lv_iload_n hx hb dX4_lowest_9 rfl (lv_at hl 1 rfl) ?_
        obtain ⟨r2, hr2, h⟩ := bd_t h
        refine rdS (As := [.int x0, .int x1]) (rest := []) S hK (c_X4_has l G x0 x1 r2 hr2) mX4_has q348 ⟨rfl, rfl, Nat.le_of_ble_eq_true rfl, Nat.le_of_ble_eq_true rfl⟩ (ws_nil G.1 _) rfl hl.1 (Nat.le_of_ble_eq_true rfl) ⟨Nat.le_refl 0, Nat.le_refl 0⟩ dX4_lowest_10 ?_
        refine lv_if_eq (tgt := 18) hx hb dX4_lowest_13 (by decide) (fun c3 => ?_) (fun c3 => ?_)
        · replace h := if_t c3 h
          refine lv_iinc (v := x1 + 1) (lv' := [(1, .int (x1 + 1)), (0, .int x0)]) hx hb dX4_lowest_18 hl (k := 1) rfl rfl (by decide) rfl (fun ls hl => ?_)
          refine lv_goto (tgt := 2) hx hb dX4_lowest_21 (by decide) ?_
          exact ih x0 (x1 + 1)  h ls (lv_sub hl [1, 0] rfl)
        · replace h := if_f c3 h
          refine lv_iload_n hx hb dX4_lowest_16 rfl (lv_at hl 1 rfl) ?_
          obtain rfl := Option.some.inj h
          exact retR S hr hlk rfl rfl dX4_lowest_17
  rw [F_X4_lowest] at h
  refine lv_iconst (v := 0) hx hb dX4_lowest_0 (by decide) ?_
  refine lv_istore_n (lv' := [(1, .int 0), (0, .int p0)]) hx hb dX4_lowest_1 rfl hl (by decide) rfl (fun ls hl => ?_)
  exact L2 10000 p0 0  h ls (lv_sub hl [1, 0] rfl)
set_option maxHeartbeats 4000000 in
set_option maxRecDepth 100000 in
theorem c_X4_leastCommonMultiple (l : Launch) (G : gG) (p0 p1 : Int32) (res : Int32) (h : F_X4_leastCommonMultiple p0 p1 = some res) : RdM l G yX4_leastCommonMultiple cX4_leastCommonMultiple 3 .int (rmk 0 0) [] [.int p0, .int p1] res := by
  refine ofR (by decide) (Nat.le_of_ble_eq_true rfl) ?_
  intro p e s m below meth c ls S hr hlk hK hP hl
  have S : CallFix p m c cX4_leastCommonMultiple 3 s ([.int p0, .int p1] : List Value).toArray T0 RX4 := S
  obtain ⟨hx, hb, hml, hown, hts⟩ := id S
  have hl : lv_has ls 3 [(0, .int p0), (1, .int p1)] := hl
  have L9 : ∀ (n : Nat) (x0 x1 x2 : Int32), F_X4_leastCommonMultiple_9 n x0 x1 x2 = some res → ∀ (ls : Array Slot), lv_has ls 3 [(0, .int x0), (1, .int x1), (2, .int x2)] → W p l e (rmk 0 0) s m ([.int p0, .int p1] : List Value).toArray below meth c s.heap [] 0 0 (MQ below (vp_Si (fun x => x = res)) ([.int p0, .int p1] : List Value).toArray s 0 0 (fun _ => False)) (F0 m 9 ls []) := by
    intro n
    induction n with
    | zero => intro x0 x1 x2 h; exact absurd (show (none : Option (Int32)) = some res from h) (fun q => by cases q)
    | succ n ih =>
      intro x0 x1 x2 h ls hl
      rw [F_X4_leastCommonMultiple_9] at h
      refine lv_iload_n hx hb dX4_leastCommonMultiple_9 rfl (lv_at hl 2 rfl) ?_
      refine lv_iload_n hx hb dX4_leastCommonMultiple_10 rfl (lv_at hl 1 rfl) ?_
      refine lv_icmp_ge (tgt := 32) hx hb dX4_leastCommonMultiple_11 (by decide) (fun c2 => ?_) (fun c2 => ?_)
      · replace h := if_t c2 h
        refine lv_iload_n hx hb dX4_leastCommonMultiple_32 rfl (lv_at hl 0 rfl) ?_
        refine lv_iload_n hx hb dX4_leastCommonMultiple_33 rfl (lv_at hl 1 rfl) ?_
        refine lv_imul hx hb dX4_leastCommonMultiple_34 ?_
        obtain rfl := Option.some.inj h
        exact retR S hr hlk rfl rfl dX4_leastCommonMultiple_35
      · replace h := if_f c2 h
        refine lv_iload_n hx hb dX4_leastCommonMultiple_14 rfl (lv_at hl 0 rfl) ?_
        refine lv_iload_n hx hb dX4_leastCommonMultiple_15 rfl (lv_at hl 2 rfl) ?_
        refine lv_imul hx hb dX4_leastCommonMultiple_16 ?_
        refine lv_iload_n hx hb dX4_leastCommonMultiple_17 rfl (lv_at hl 1 rfl) ?_
        obtain ⟨k3, h⟩ := ck_t h
        refine lv_irem hx hb dX4_leastCommonMultiple_18 (nz_t k3) ?_
        refine lv_if_ne (tgt := 26) hx hb dX4_leastCommonMultiple_19 (by decide) (fun c4 => ?_) (fun c4 => ?_)
        · replace h := if_f c4 h
          refine lv_iinc (v := x2 + 1) (lv' := [(2, .int (x2 + 1)), (0, .int x0), (1, .int x1)]) hx hb dX4_leastCommonMultiple_26 hl (k := 2) rfl rfl (by decide) rfl (fun ls hl => ?_)
          refine lv_goto (tgt := 9) hx hb dX4_leastCommonMultiple_29 (by decide) ?_
          exact ih x0 x1 (x2 + 1)  h ls (lv_sub hl [1, 2, 0] rfl)
        · replace h := if_t c4 h
          refine lv_iload_n hx hb dX4_leastCommonMultiple_22 rfl (lv_at hl 0 rfl) ?_
          refine lv_iload_n hx hb dX4_leastCommonMultiple_23 rfl (lv_at hl 2 rfl) ?_
          refine lv_imul hx hb dX4_leastCommonMultiple_24 ?_
          obtain rfl := Option.some.inj h
          exact retR S hr hlk rfl rfl dX4_leastCommonMultiple_25
  rw [F_X4_leastCommonMultiple] at h
  refine lv_iload_n hx hb dX4_leastCommonMultiple_0 rfl (lv_at hl 1 rfl) ?_
  refine lv_iconst (v := 1) hx hb dX4_leastCommonMultiple_1 (by decide) ?_
  refine lv_icmp_ge (tgt := 7) hx hb dX4_leastCommonMultiple_2 (by decide) (fun c1 => ?_) (fun c1 => ?_)
  · replace h := if_t c1 h
    refine lv_iconst (v := 1) hx hb dX4_leastCommonMultiple_7 (by decide) ?_
    refine lv_istore_n (lv' := [(2, .int 1), (0, .int p0), (1, .int p1)]) hx hb dX4_leastCommonMultiple_8 rfl hl (by decide) rfl (fun ls hl => ?_)
    exact L9 10000 p0 p1 1  h ls (lv_sub hl [1, 2, 0] rfl)
  · replace h := if_f c1 h
    refine lv_iload_n hx hb dX4_leastCommonMultiple_5 rfl (lv_at hl 0 rfl) ?_
    obtain rfl := Option.some.inj h
    exact retR S hr hlk rfl rfl dX4_leastCommonMultiple_6
end
section
def w_X1_init (G : gG) (b : Nat) (res : (Nat → Int32) × (Nat → Int32)) : (Nat → Nat) → va_W := fun u => [(b, .inr (1, [.ref (u 0), .ref (u 1)])), ((u 0), .inl (G.2.2.1, 24, .inl res.1)), ((u 1), .inl (G.2.2.1, 24, .inl res.2))]
set_option maxHeartbeats 4000000 in
set_option maxRecDepth 100000 in
theorem c_X1_init (l : Launch) (G : gG) (qw sz : Nat) (res : (Nat → Int32) × (Nat → Int32)) (h : F_X1_init = some res) : CtM l G yX1_init cX1_init 3 (rmc 1 12 2 48) [(qw, .inr (1, [.null, .null]))] sz [.ref qw] (w_X1_init G qw res) 2 48 := by
  refine ofCt (by decide) (Nat.le_of_ble_eq_true rfl) ?_
  intro p e s m below meth c ls A S hr hlk hin hK hP hD hS hA hl
  have S : CallFix p m c cX1_init 3 s ([.ref qw] : List Value).toArray T0 RX1 := S
  have hin : meth.name = "<init>" := hin
  obtain ⟨hx, hb, hml, hown, hts⟩ := id S
  have hl : lv_has ls 3 [(0, .ref qw)] := hl
  refine lv_aload_n hx hb dX1_init_0 rfl (lv_at hl 0 rfl) ?_
  refine obI S q70 q57 q58 hl.1 dX1_init_1 (Nat.le_of_ble_eq_true rfl) (Nat.le_of_ble_eq_true rfl) ?_
  refine lv_aload_n hx hb dX1_init_4 rfl (lv_at hl 0 rfl) ?_
  refine lv_bipush (v := 24) hx hb dX1_init_5 (by decide) ?_
  refine nwI S hK hP hD hS hA q78 (by decide) (N' := 24) (by decide) (by decide) (Nat.le_of_ble_eq_true rfl) (Nat.le_of_ble_eq_true rfl) dX1_init_7 (fun ad1 H hP hD hS => ?_)
  have hP : va_P G.1 vwCl [(qw, .inr (1, [.null, .null])), (ad1, .inl (G.2.2.1, 24, .inl (fun _ => 0)))] H := hP
  have hD : va_D A [(qw, .inr (1, [.null, .null])), (ad1, .inl (G.2.2.1, 24, .inl (fun _ => 0)))] := hD
  refine W.widen (k := 1) (n := 24) (Nat.le_of_ble_eq_true rfl) (Nat.le_of_ble_eq_true rfl) ?_
  refine pf S hK iX1 tyX1 tyX1_ok nmX1 hP hD hS 0 rfl rfl 0 (by decide) q71 rfl rfl rfl (Nat.le_of_ble_eq_true rfl) [(qw, .inr (1, [.ref ad1, .null])), (ad1, .inl (G.2.2.1, 24, .inl (fun _ => 0)))] rfl dX1_init_9 (fun H locs hP hD hS => ?_)
  refine lv_aload_n hx hb dX1_init_12 rfl (lv_at hl 0 rfl) ?_
  refine lv_bipush (v := 24) hx hb dX1_init_13 (by decide) ?_
  refine nwI S hK hP hD hS hA q78 (by decide) (N' := 24) (by decide) (by decide) (Nat.le_of_ble_eq_true rfl) (Nat.le_of_ble_eq_true rfl) dX1_init_15 (fun ad2 H hP hD hS => ?_)
  have hP : va_P G.1 vwCl [(qw, .inr (1, [.ref ad1, .null])), (ad1, .inl (G.2.2.1, 24, .inl (fun _ => 0))), (ad2, .inl (G.2.2.1, 24, .inl (fun _ => 0)))] H := hP
  have hD : va_D A [(qw, .inr (1, [.ref ad1, .null])), (ad1, .inl (G.2.2.1, 24, .inl (fun _ => 0))), (ad2, .inl (G.2.2.1, 24, .inl (fun _ => 0)))] := hD
  refine W.widen (k := 2) (n := 48) (Nat.le_of_ble_eq_true rfl) (Nat.le_of_ble_eq_true rfl) ?_
  refine pf S hK iX1 tyX1 tyX1_ok nmX1 hP hD hS 0 rfl rfl 1 (by decide) q72 rfl rfl rfl (Nat.le_of_ble_eq_true rfl) [(qw, .inr (1, [.ref ad1, .ref ad2])), (ad1, .inl (G.2.2.1, 24, .inl (fun _ => 0))), (ad2, .inl (G.2.2.1, 24, .inl (fun _ => 0)))] rfl dX1_init_17 (fun H locs hP hD hS => ?_)
  refine lv_iconst (v := 0) hx hb dX1_init_20 (by decide) ?_
  refine lv_istore_n (lv' := [(1, .int 0), (0, .ref qw)]) hx hb dX1_init_21 rfl hl (by decide) rfl (fun ls hl => ?_)
  have L22 : ∀ (n : Nat) (x1 : Int32) (ft : Nat → Int32) (fu : Nat → Int32), F_X1_init_22 n x1 ft fu = some res → ∀ (H : Heap) (locs : List Loc), va_P G.1 vwCl [(qw, .inr (1, [.ref ad1, .ref ad2])), (ad1, .inl (G.2.2.1, 24, .inl ft)), (ad2, .inl (G.2.2.1, 24, .inl fu))] H → va_D A [(qw, .inr (1, [.ref ad1, .ref ad2])), (ad1, .inl (G.2.2.1, 24, .inl ft)), (ad2, .inl (G.2.2.1, 24, .inl fu))] → va_S A s.heap H locs → ∀ (ls : Array Slot), lv_has ls 3 [(0, .ref qw), (1, .int x1)] → W p l e (rmc 1 12 2 48) s m ([.ref qw] : List Value).toArray below meth c H locs 2 48 (MQ below (gQc G (w_X1_init G qw res) A) ([.ref qw] : List Value).toArray s 2 48 A) (F0 m 22 ls []) := by
    intro n
    induction n with
    | zero => intro x1 ft fu h; exact absurd (show (none : Option ((Nat → Int32) × (Nat → Int32))) = some res from h) (fun q => by cases q)
    | succ n ih =>
      intro x1 ft fu h H locs hP hD hS ls hl
      rw [F_X1_init_22] at h
      refine lv_iload_n hx hb dX1_init_22 rfl (lv_at hl 1 rfl) ?_
      refine lv_bipush (v := 24) hx hb dX1_init_23 (by decide) ?_
      refine lv_icmp_ge (tgt := 64) hx hb dX1_init_25 (by decide) (fun c1 => ?_) (fun c1 => ?_)
      · replace h := if_t c1 h
        obtain rfl := Option.some.inj h
        exact retC S hr hlk (adr [ad1, ad2]) (Nat.le_refl _) (Nat.le_refl _) hP hD hS dX1_init_64
      · replace h := if_f c1 h
        refine lv_iload_n hx hb dX1_init_28 rfl (lv_at hl 1 rfl) ?_
        refine lv_iconst (v := 1) hx hb dX1_init_29 (by decide) ?_
        refine lv_iadd hx hb dX1_init_30 ?_
        refine lv_bipush (v := 24) hx hb dX1_init_31 (by decide) ?_
        refine lv_icmp_ge (tgt := 42) hx hb dX1_init_33 (by decide) (fun c2 => ?_) (fun c2 => ?_)
        · replace h := if_t c2 h
          refine lv_iconst (v := 0) hx hb dX1_init_42 (by decide) ?_
          refine lv_istore_n (lv' := [(2, .int 0), (0, .ref qw), (1, .int x1)]) hx hb dX1_init_43 rfl hl (by decide) rfl (fun ls hl => ?_)
          refine lv_aload_n hx hb dX1_init_44 rfl (lv_at hl 1 rfl) ?_
          refine gf S hK iX1 hP 0 rfl rfl 0 (by decide) q71 rfl dX1_init_45 ?_
          refine lv_iload_n hx hb dX1_init_48 rfl (lv_at hl 2 rfl) ?_
          refine lv_iload_n hx hb dX1_init_49 rfl (lv_at hl 0 rfl) ?_
          obtain ⟨k3, h⟩ := ck_t h
          refine ast S hK hP hD hS 1 rfl (ok_vp k3) [(qw, .inr (1, [.ref ad1, .ref ad2])), (ad1, .inl (G.2.2.1, 24, .inl (upd ft (Int32.toNatClampNeg x1) 0))), (ad2, .inl (G.2.2.1, 24, .inl fu))] rfl dX1_init_50 (fun H locs hP hD hS => ?_)
          refine lv_aload_n hx hb dX1_init_51 rfl (lv_at hl 1 rfl) ?_
          refine gf S hK iX1 hP 0 rfl rfl 1 (by decide) q72 rfl dX1_init_52 ?_
          refine lv_iload_n hx hb dX1_init_55 rfl (lv_at hl 0 rfl) ?_
          refine lv_iload_n hx hb dX1_init_56 rfl (lv_at hl 2 rfl) ?_
          obtain ⟨k4, h⟩ := ck_t h
          refine ast S hK hP hD hS 2 rfl (ok_vp k4) [(qw, .inr (1, [.ref ad1, .ref ad2])), (ad1, .inl (G.2.2.1, 24, .inl (upd ft (Int32.toNatClampNeg x1) 0))), (ad2, .inl (G.2.2.1, 24, .inl (upd fu (Int32.toNatClampNeg (0 : Int32)) x1)))] rfl dX1_init_57 (fun H locs hP hD hS => ?_)
          refine lv_iinc (v := x1 + 1) (lv' := [(1, .int (x1 + 1)), (2, .int 0), (0, .ref qw)]) hx hb dX1_init_58 hl (k := 2) rfl rfl (by decide) rfl (fun ls hl => ?_)
          refine lv_goto (tgt := 22) hx hb dX1_init_61 (by decide) ?_
          exact ih (x1 + 1) (upd ft (Int32.toNatClampNeg x1) 0) (upd fu (Int32.toNatClampNeg (0 : Int32)) x1) h _ _ hP hD hS ls (lv_sub hl [2, 0] rfl)
        · replace h := if_f c2 h
          refine lv_iload_n hx hb dX1_init_36 rfl (lv_at hl 1 rfl) ?_
          refine lv_iconst (v := 1) hx hb dX1_init_37 (by decide) ?_
          refine lv_iadd hx hb dX1_init_38 ?_
          refine lv_goto (tgt := 43) hx hb dX1_init_39 (by decide) ?_
          refine lv_istore_n (lv' := [(2, .int (x1 + 1)), (0, .ref qw), (1, .int x1)]) hx hb dX1_init_43 rfl hl (by decide) rfl (fun ls hl => ?_)
          refine lv_aload_n hx hb dX1_init_44 rfl (lv_at hl 1 rfl) ?_
          refine gf S hK iX1 hP 0 rfl rfl 0 (by decide) q71 rfl dX1_init_45 ?_
          refine lv_iload_n hx hb dX1_init_48 rfl (lv_at hl 2 rfl) ?_
          refine lv_iload_n hx hb dX1_init_49 rfl (lv_at hl 0 rfl) ?_
          obtain ⟨k5, h⟩ := ck_t h
          refine ast S hK hP hD hS 1 rfl (ok_vp k5) [(qw, .inr (1, [.ref ad1, .ref ad2])), (ad1, .inl (G.2.2.1, 24, .inl (upd ft (Int32.toNatClampNeg x1) (x1 + 1)))), (ad2, .inl (G.2.2.1, 24, .inl fu))] rfl dX1_init_50 (fun H locs hP hD hS => ?_)
          refine lv_aload_n hx hb dX1_init_51 rfl (lv_at hl 1 rfl) ?_
          refine gf S hK iX1 hP 0 rfl rfl 1 (by decide) q72 rfl dX1_init_52 ?_
          refine lv_iload_n hx hb dX1_init_55 rfl (lv_at hl 0 rfl) ?_
          refine lv_iload_n hx hb dX1_init_56 rfl (lv_at hl 2 rfl) ?_
          obtain ⟨k6, h⟩ := ck_t h
          refine ast S hK hP hD hS 2 rfl (ok_vp k6) [(qw, .inr (1, [.ref ad1, .ref ad2])), (ad1, .inl (G.2.2.1, 24, .inl (upd ft (Int32.toNatClampNeg x1) (x1 + 1)))), (ad2, .inl (G.2.2.1, 24, .inl (upd fu (Int32.toNatClampNeg (x1 + 1)) x1)))] rfl dX1_init_57 (fun H locs hP hD hS => ?_)
          refine lv_iinc (v := x1 + 1) (lv' := [(1, .int (x1 + 1)), (2, .int (x1 + 1)), (0, .ref qw)]) hx hb dX1_init_58 hl (k := 2) rfl rfl (by decide) rfl (fun ls hl => ?_)
          refine lv_goto (tgt := 22) hx hb dX1_init_61 (by decide) ?_
          exact ih (x1 + 1) (upd ft (Int32.toNatClampNeg x1) (x1 + 1)) (upd fu (Int32.toNatClampNeg (x1 + 1)) x1) h _ _ hP hD hS ls (lv_sub hl [2, 0] rfl)
  rw [F_X1_init] at h
  exact L22 10000 0 (fun _ => 0) (fun _ => 0) h _ _ hP hD hS ls (lv_sub hl [1, 0] rfl)
def w_X3_init (G : gG) (b : Nat) (res : (Nat → Int32) × (Nat → Int32)) : (Nat → Nat) → va_W := fun u => [(b, .inr (3, [.ref (u 0), .ref (u 3), .ref (u 4), .ref (u 5), .int 0, .int 0, .int 0, .int 0, .int 0])), ((u 0), .inr (1, [.ref (u 1), .ref (u 2)])), ((u 1), .inl (G.2.2.1, 24, .inl res.1)), ((u 2), .inl (G.2.2.1, 24, .inl res.2)), ((u 3), .inl (G.2.2.1, 12, .inl (fun _ => 0))), ((u 4), .inl (G.2.2.1, 12, .inl (fun _ => 0))), ((u 5), .inl (G.2.2.1, 12, .inl (fun _ => 0)))]
set_option maxHeartbeats 4000000 in
set_option maxRecDepth 100000 in
theorem c_X3_init (l : Launch) (G : gG) (qa sz : Nat) (res : (Nat → Int32) × (Nat → Int32)) (h : F_X1_init = some res) : CtM l G yX3_init cX3_init 1 (rmc 2 34 6 86) [(qa, .inr (3, [.null, .null, .null, .null, .int 0, .int 0, .int 0, .int 0, .int 0]))] sz [.ref qa] (w_X3_init G qa res) 6 86 := by
  refine ofCt (by decide) (Nat.le_of_ble_eq_true rfl) ?_
  intro p e s m below meth c ls A S hr hlk hin hK hP hD hS hA hl
  have S : CallFix p m c cX3_init 1 s ([.ref qa] : List Value).toArray T0 RX3 := S
  have hin : meth.name = "<init>" := hin
  obtain ⟨hx, hb, hml, hown, hts⟩ := id S
  have hl : lv_has ls 1 [(0, .ref qa)] := hl
  refine lv_aload_n hx hb dX3_init_0 rfl (lv_at hl 0 rfl) ?_
  refine obI S q64 q57 q58 hl.1 dX3_init_1 (Nat.le_of_ble_eq_true rfl) (Nat.le_of_ble_eq_true rfl) ?_
  refine lv_aload_n hx hb dX3_init_4 rfl (lv_at hl 0 rfl) ?_
  refine nwO S hK iX1 tyX1 tyX1_ok q65 q66 q44 hP hD hS hA rfl (ci := 1) df1 (Nat.le_of_ble_eq_true rfl) (Nat.le_of_ble_eq_true rfl) dX3_init_5 (fun ad1 H hP hD hS => ?_)
  have hP : va_P G.1 vwCl [(qa, .inr (3, [.null, .null, .null, .null, .int 0, .int 0, .int 0, .int 0, .int 0])), (ad1, .inr (1, [.null, .null]))] H := hP
  have hD : va_D A [(qa, .inr (3, [.null, .null, .null, .null, .int 0, .int 0, .int 0, .int 0, .int 0])), (ad1, .inr (1, [.null, .null]))] := hD
  refine W.widen (k := 1) (n := 2) (Nat.le_of_ble_eq_true rfl) (Nat.le_of_ble_eq_true rfl) ?_
  refine lv_dup hx hb dX3_init_8 rfl ?_
  refine ctI (As := []) (rest := [.ref ad1, .ref qa]) (wr := [(qa, .inr (3, [.null, .null, .null, .null, .int 0, .int 0, .int 0, .int 0, .int 0]))]) (W' := w_X1_init G ad1 res) S hK (c_X1_init l G ad1 _ res h) mX1_init q67 ⟨rfl, rfl, Nat.le_of_ble_eq_true rfl, Nat.le_of_ble_eq_true rfl⟩ hP hD hS hA [1] [0] rfl rfl (by decide) (by decide) (by decide) rfl hl.1 (Nat.le_of_ble_eq_true rfl) ⟨Nat.le_of_ble_eq_true rfl, Nat.le_of_ble_eq_true rfl⟩ dX3_init_9 (fun u2 H locs hP hD hS => ?_)
  have hP : va_P G.1 vwCl [(qa, .inr (3, [.null, .null, .null, .null, .int 0, .int 0, .int 0, .int 0, .int 0])), (ad1, .inr (1, [.ref (u2 0), .ref (u2 1)])), ((u2 0), .inl (G.2.2.1, 24, .inl res.1)), ((u2 1), .inl (G.2.2.1, 24, .inl res.2))] H := hP
  have hD : va_D A [(qa, .inr (3, [.null, .null, .null, .null, .int 0, .int 0, .int 0, .int 0, .int 0])), (ad1, .inr (1, [.ref (u2 0), .ref (u2 1)])), ((u2 0), .inl (G.2.2.1, 24, .inl res.1)), ((u2 1), .inl (G.2.2.1, 24, .inl res.2))] := hD
  refine W.widen (k := 3) (n := 50) (Nat.le_of_ble_eq_true rfl) (Nat.le_of_ble_eq_true rfl) ?_
  refine pfF S hK hin iX3 tyX3 tyX3_ok nmX3 hP hD hS 0 rfl rfl 0 (by decide) q79 rfl rfl rfl rfl (Nat.le_of_ble_eq_true rfl) [(qa, .inr (3, [.ref ad1, .null, .null, .null, .int 0, .int 0, .int 0, .int 0, .int 0])), (ad1, .inr (1, [.ref (u2 0), .ref (u2 1)])), ((u2 0), .inl (G.2.2.1, 24, .inl res.1)), ((u2 1), .inl (G.2.2.1, 24, .inl res.2))] rfl dX3_init_12 (fun H locs hP hD hS => ?_)
  refine lv_aload_n hx hb dX3_init_15 rfl (lv_at hl 0 rfl) ?_
  refine lv_bipush (v := 12) hx hb dX3_init_16 (by decide) ?_
  refine nwI S hK hP hD hS hA q78 (by decide) (N' := 12) (by decide) (by decide) (Nat.le_of_ble_eq_true rfl) (Nat.le_of_ble_eq_true rfl) dX3_init_18 (fun ad3 H hP hD hS => ?_)
  have hP : va_P G.1 vwCl [(qa, .inr (3, [.ref ad1, .null, .null, .null, .int 0, .int 0, .int 0, .int 0, .int 0])), (ad1, .inr (1, [.ref (u2 0), .ref (u2 1)])), ((u2 0), .inl (G.2.2.1, 24, .inl res.1)), ((u2 1), .inl (G.2.2.1, 24, .inl res.2)), (ad3, .inl (G.2.2.1, 12, .inl (fun _ => 0)))] H := hP
  have hD : va_D A [(qa, .inr (3, [.ref ad1, .null, .null, .null, .int 0, .int 0, .int 0, .int 0, .int 0])), (ad1, .inr (1, [.ref (u2 0), .ref (u2 1)])), ((u2 0), .inl (G.2.2.1, 24, .inl res.1)), ((u2 1), .inl (G.2.2.1, 24, .inl res.2)), (ad3, .inl (G.2.2.1, 12, .inl (fun _ => 0)))] := hD
  refine W.widen (k := 4) (n := 62) (Nat.le_of_ble_eq_true rfl) (Nat.le_of_ble_eq_true rfl) ?_
  refine pfF S hK hin iX3 tyX3 tyX3_ok nmX3 hP hD hS 0 rfl rfl 1 (by decide) q81 rfl rfl rfl rfl (Nat.le_of_ble_eq_true rfl) [(qa, .inr (3, [.ref ad1, .ref ad3, .null, .null, .int 0, .int 0, .int 0, .int 0, .int 0])), (ad1, .inr (1, [.ref (u2 0), .ref (u2 1)])), ((u2 0), .inl (G.2.2.1, 24, .inl res.1)), ((u2 1), .inl (G.2.2.1, 24, .inl res.2)), (ad3, .inl (G.2.2.1, 12, .inl (fun _ => 0)))] rfl dX3_init_20 (fun H locs hP hD hS => ?_)
  refine lv_aload_n hx hb dX3_init_23 rfl (lv_at hl 0 rfl) ?_
  refine lv_bipush (v := 12) hx hb dX3_init_24 (by decide) ?_
  refine nwI S hK hP hD hS hA q78 (by decide) (N' := 12) (by decide) (by decide) (Nat.le_of_ble_eq_true rfl) (Nat.le_of_ble_eq_true rfl) dX3_init_26 (fun ad4 H hP hD hS => ?_)
  have hP : va_P G.1 vwCl [(qa, .inr (3, [.ref ad1, .ref ad3, .null, .null, .int 0, .int 0, .int 0, .int 0, .int 0])), (ad1, .inr (1, [.ref (u2 0), .ref (u2 1)])), ((u2 0), .inl (G.2.2.1, 24, .inl res.1)), ((u2 1), .inl (G.2.2.1, 24, .inl res.2)), (ad3, .inl (G.2.2.1, 12, .inl (fun _ => 0))), (ad4, .inl (G.2.2.1, 12, .inl (fun _ => 0)))] H := hP
  have hD : va_D A [(qa, .inr (3, [.ref ad1, .ref ad3, .null, .null, .int 0, .int 0, .int 0, .int 0, .int 0])), (ad1, .inr (1, [.ref (u2 0), .ref (u2 1)])), ((u2 0), .inl (G.2.2.1, 24, .inl res.1)), ((u2 1), .inl (G.2.2.1, 24, .inl res.2)), (ad3, .inl (G.2.2.1, 12, .inl (fun _ => 0))), (ad4, .inl (G.2.2.1, 12, .inl (fun _ => 0)))] := hD
  refine W.widen (k := 5) (n := 74) (Nat.le_of_ble_eq_true rfl) (Nat.le_of_ble_eq_true rfl) ?_
  refine pfF S hK hin iX3 tyX3 tyX3_ok nmX3 hP hD hS 0 rfl rfl 2 (by decide) q82 rfl rfl rfl rfl (Nat.le_of_ble_eq_true rfl) [(qa, .inr (3, [.ref ad1, .ref ad3, .ref ad4, .null, .int 0, .int 0, .int 0, .int 0, .int 0])), (ad1, .inr (1, [.ref (u2 0), .ref (u2 1)])), ((u2 0), .inl (G.2.2.1, 24, .inl res.1)), ((u2 1), .inl (G.2.2.1, 24, .inl res.2)), (ad3, .inl (G.2.2.1, 12, .inl (fun _ => 0))), (ad4, .inl (G.2.2.1, 12, .inl (fun _ => 0)))] rfl dX3_init_28 (fun H locs hP hD hS => ?_)
  refine lv_aload_n hx hb dX3_init_31 rfl (lv_at hl 0 rfl) ?_
  refine lv_bipush (v := 12) hx hb dX3_init_32 (by decide) ?_
  refine nwI S hK hP hD hS hA q78 (by decide) (N' := 12) (by decide) (by decide) (Nat.le_of_ble_eq_true rfl) (Nat.le_of_ble_eq_true rfl) dX3_init_34 (fun ad5 H hP hD hS => ?_)
  have hP : va_P G.1 vwCl [(qa, .inr (3, [.ref ad1, .ref ad3, .ref ad4, .null, .int 0, .int 0, .int 0, .int 0, .int 0])), (ad1, .inr (1, [.ref (u2 0), .ref (u2 1)])), ((u2 0), .inl (G.2.2.1, 24, .inl res.1)), ((u2 1), .inl (G.2.2.1, 24, .inl res.2)), (ad3, .inl (G.2.2.1, 12, .inl (fun _ => 0))), (ad4, .inl (G.2.2.1, 12, .inl (fun _ => 0))), (ad5, .inl (G.2.2.1, 12, .inl (fun _ => 0)))] H := hP
  have hD : va_D A [(qa, .inr (3, [.ref ad1, .ref ad3, .ref ad4, .null, .int 0, .int 0, .int 0, .int 0, .int 0])), (ad1, .inr (1, [.ref (u2 0), .ref (u2 1)])), ((u2 0), .inl (G.2.2.1, 24, .inl res.1)), ((u2 1), .inl (G.2.2.1, 24, .inl res.2)), (ad3, .inl (G.2.2.1, 12, .inl (fun _ => 0))), (ad4, .inl (G.2.2.1, 12, .inl (fun _ => 0))), (ad5, .inl (G.2.2.1, 12, .inl (fun _ => 0)))] := hD
  refine W.widen (k := 6) (n := 86) (Nat.le_of_ble_eq_true rfl) (Nat.le_of_ble_eq_true rfl) ?_
  refine pfF S hK hin iX3 tyX3 tyX3_ok nmX3 hP hD hS 0 rfl rfl 3 (by decide) q83 rfl rfl rfl rfl (Nat.le_of_ble_eq_true rfl) [(qa, .inr (3, [.ref ad1, .ref ad3, .ref ad4, .ref ad5, .int 0, .int 0, .int 0, .int 0, .int 0])), (ad1, .inr (1, [.ref (u2 0), .ref (u2 1)])), ((u2 0), .inl (G.2.2.1, 24, .inl res.1)), ((u2 1), .inl (G.2.2.1, 24, .inl res.2)), (ad3, .inl (G.2.2.1, 12, .inl (fun _ => 0))), (ad4, .inl (G.2.2.1, 12, .inl (fun _ => 0))), (ad5, .inl (G.2.2.1, 12, .inl (fun _ => 0)))] rfl dX3_init_36 (fun H locs hP hD hS => ?_)
  exact retC S hr hlk (adr [ad1, u2 0, u2 1, ad3, ad4, ad5]) (Nat.le_refl _) (Nat.le_refl _) hP hD hS dX3_init_39
def w_X0_init (G : gG) (b : Nat) (res : (Nat → Int32) × (Nat → Int32)) : (Nat → Nat) → va_W := fun u => [(b, .inr (0, [.ref (u 0), .int 0, .int 0])), ((u 0), .inl (G.2.2.2, 4, .inr (.inr (.inr (.inr (va_up (va_up (va_up (va_up (fun _ => none) (Int32.toNatClampNeg 0) (some (u 1))) (Int32.toNatClampNeg 1) (some (u 8))) (Int32.toNatClampNeg 2) (some (u 15))) (Int32.toNatClampNeg 3) (some (u 22)))))))), ((u 1), .inr (3, [.ref (u 2), .ref (u 5), .ref (u 6), .ref (u 7), .int 0, .int 0, .int 0, .int 0, .int 0])), ((u 2), .inr (1, [.ref (u 3), .ref (u 4)])), ((u 3), .inl (G.2.2.1, 24, .inl res.1)), ((u 4), .inl (G.2.2.1, 24, .inl res.2)), ((u 5), .inl (G.2.2.1, 12, .inl (fun _ => 0))), ((u 6), .inl (G.2.2.1, 12, .inl (fun _ => 0))), ((u 7), .inl (G.2.2.1, 12, .inl (fun _ => 0))), ((u 8), .inr (3, [.ref (u 9), .ref (u 12), .ref (u 13), .ref (u 14), .int 0, .int 0, .int 0, .int 0, .int 0])), ((u 9), .inr (1, [.ref (u 10), .ref (u 11)])), ((u 10), .inl (G.2.2.1, 24, .inl res.1)), ((u 11), .inl (G.2.2.1, 24, .inl res.2)), ((u 12), .inl (G.2.2.1, 12, .inl (fun _ => 0))), ((u 13), .inl (G.2.2.1, 12, .inl (fun _ => 0))), ((u 14), .inl (G.2.2.1, 12, .inl (fun _ => 0))), ((u 15), .inr (3, [.ref (u 16), .ref (u 19), .ref (u 20), .ref (u 21), .int 0, .int 0, .int 0, .int 0, .int 0])), ((u 16), .inr (1, [.ref (u 17), .ref (u 18)])), ((u 17), .inl (G.2.2.1, 24, .inl res.1)), ((u 18), .inl (G.2.2.1, 24, .inl res.2)), ((u 19), .inl (G.2.2.1, 12, .inl (fun _ => 0))), ((u 20), .inl (G.2.2.1, 12, .inl (fun _ => 0))), ((u 21), .inl (G.2.2.1, 12, .inl (fun _ => 0))), ((u 22), .inr (3, [.ref (u 23), .ref (u 26), .ref (u 27), .ref (u 28), .int 0, .int 0, .int 0, .int 0, .int 0])), ((u 23), .inr (1, [.ref (u 24), .ref (u 25)])), ((u 24), .inl (G.2.2.1, 24, .inl res.1)), ((u 25), .inl (G.2.2.1, 24, .inl res.2)), ((u 26), .inl (G.2.2.1, 12, .inl (fun _ => 0))), ((u 27), .inl (G.2.2.1, 12, .inl (fun _ => 0))), ((u 28), .inl (G.2.2.1, 12, .inl (fun _ => 0)))]
set_option maxHeartbeats 4000000 in
set_option maxRecDepth 100000 in
theorem c_X0_init (l : Launch) (G : gG) (hqa sz : Nat) (res : (Nat → Int32) × (Nat → Int32)) (h : F_X1_init = some res) : CtM l G yX0_init cX0_init 2 (rmc 3 54 29 384) [(hqa, .inr (0, [.null, .int 0, .int 0]))] sz [.ref hqa] (w_X0_init G hqa res) 29 384 := by
  refine ofCt (by decide) (Nat.le_of_ble_eq_true rfl) ?_
  intro p e s m below meth c ls A S hr hlk hin hK hP hD hS hA hl
  have S : CallFix p m c cX0_init 2 s ([.ref hqa] : List Value).toArray T0 RX0 := S
  have hin : meth.name = "<init>" := hin
  obtain ⟨hx, hb, hml, hown, hts⟩ := id S
  have hl : lv_has ls 2 [(0, .ref hqa)] := hl
  refine lv_aload_n hx hb dX0_init_0 rfl (lv_at hl 0 rfl) ?_
  refine obI S q113 q57 q58 hl.1 dX0_init_1 (Nat.le_of_ble_eq_true rfl) (Nat.le_of_ble_eq_true rfl) ?_
  refine lv_aload_n hx hb dX0_init_4 rfl (lv_at hl 0 rfl) ?_
  refine lv_iconst (v := 4) hx hb dX0_init_5 (by decide) ?_
  refine nwS S hK hP hD hS hA q114 (by decide) (N' := 4) (by decide) (by decide) (Nat.le_of_ble_eq_true rfl) (Nat.le_of_ble_eq_true rfl) dX0_init_6 (fun ad1 H hP hD hS => ?_)
  have hP : va_P G.1 vwCl [(hqa, .inr (0, [.null, .int 0, .int 0])), (ad1, .inl (G.2.2.2, 4, .inr (.inr (.inr (.inr (fun _ => none))))))] H := hP
  have hD : va_D A [(hqa, .inr (0, [.null, .int 0, .int 0])), (ad1, .inl (G.2.2.2, 4, .inr (.inr (.inr (.inr (fun _ => none))))))] := hD
  refine W.widen (k := 1) (n := 4) (Nat.le_of_ble_eq_true rfl) (Nat.le_of_ble_eq_true rfl) ?_
  refine pfF S hK hin iX0 tyX0 tyX0_ok nmX0 hP hD hS 0 rfl rfl 0 (by decide) q117 rfl rfl rfl rfl (Nat.le_of_ble_eq_true rfl) [(hqa, .inr (0, [.ref ad1, .int 0, .int 0])), (ad1, .inl (G.2.2.2, 4, .inr (.inr (.inr (.inr (fun _ => none))))))] rfl dX0_init_9 (fun H locs hP hD hS => ?_)
  refine lv_iconst (v := 0) hx hb dX0_init_12 (by decide) ?_
  refine lv_istore_n (lv' := [(1, .int 0), (0, .ref hqa)]) hx hb dX0_init_13 rfl hl (by decide) rfl (fun ls hl => ?_)
  refine lv_iload_n hx hb dX0_init_14 rfl (lv_at hl 0 rfl) ?_
  refine lv_iconst (v := 4) hx hb dX0_init_15 (by decide) ?_
  refine lv_icmp_ge (tgt := 38) hx hb dX0_init_16 (by decide) (fun cn => absurd cn (by decide)) (fun _ => ?_)
  refine lv_aload_n hx hb dX0_init_19 rfl (lv_at hl 1 rfl) ?_
  refine gf S hK iX0 hP 0 rfl rfl 0 (by decide) q117 rfl dX0_init_20 ?_
  refine lv_iload_n hx hb dX0_init_23 rfl (lv_at hl 0 rfl) ?_
  refine nwO S hK iX3 tyX3 tyX3_ok q114 q60 q43 hP hD hS hA rfl (ci := 3) df3 (Nat.le_of_ble_eq_true rfl) (Nat.le_of_ble_eq_true rfl) dX0_init_24 (fun ad2 H hP hD hS => ?_)
  have hP : va_P G.1 vwCl [(hqa, .inr (0, [.ref ad1, .int 0, .int 0])), (ad1, .inl (G.2.2.2, 4, .inr (.inr (.inr (.inr (fun _ => none)))))), (ad2, .inr (3, [.null, .null, .null, .null, .int 0, .int 0, .int 0, .int 0, .int 0]))] H := hP
  have hD : va_D A [(hqa, .inr (0, [.ref ad1, .int 0, .int 0])), (ad1, .inl (G.2.2.2, 4, .inr (.inr (.inr (.inr (fun _ => none)))))), (ad2, .inr (3, [.null, .null, .null, .null, .int 0, .int 0, .int 0, .int 0, .int 0]))] := hD
  refine W.widen (k := 2) (n := 13) (Nat.le_of_ble_eq_true rfl) (Nat.le_of_ble_eq_true rfl) ?_
  refine lv_dup hx hb dX0_init_27 rfl ?_
  refine ctI (As := []) (rest := [.ref ad2, .int 0, .ref ad1]) (wr := [(hqa, .inr (0, [.ref ad1, .int 0, .int 0])), (ad1, .inl (G.2.2.2, 4, .inr (.inr (.inr (.inr (fun _ => none))))))]) (W' := w_X3_init G ad2 res) S hK (c_X3_init l G ad2 _ res h) mX3_init q116 ⟨rfl, rfl, Nat.le_of_ble_eq_true rfl, Nat.le_of_ble_eq_true rfl⟩ hP hD hS hA [2] [0, 1] rfl rfl (by decide) (by decide) (by decide) rfl hl.1 (Nat.le_of_ble_eq_true rfl) ⟨Nat.le_of_ble_eq_true rfl, Nat.le_of_ble_eq_true rfl⟩ dX0_init_28 (fun u3 H locs hP hD hS => ?_)
  have hP : va_P G.1 vwCl [(hqa, .inr (0, [.ref ad1, .int 0, .int 0])), (ad1, .inl (G.2.2.2, 4, .inr (.inr (.inr (.inr (fun _ => none)))))), (ad2, .inr (3, [.ref (u3 0), .ref (u3 3), .ref (u3 4), .ref (u3 5), .int 0, .int 0, .int 0, .int 0, .int 0])), ((u3 0), .inr (1, [.ref (u3 1), .ref (u3 2)])), ((u3 1), .inl (G.2.2.1, 24, .inl res.1)), ((u3 2), .inl (G.2.2.1, 24, .inl res.2)), ((u3 3), .inl (G.2.2.1, 12, .inl (fun _ => 0))), ((u3 4), .inl (G.2.2.1, 12, .inl (fun _ => 0))), ((u3 5), .inl (G.2.2.1, 12, .inl (fun _ => 0)))] H := hP
  have hD : va_D A [(hqa, .inr (0, [.ref ad1, .int 0, .int 0])), (ad1, .inl (G.2.2.2, 4, .inr (.inr (.inr (.inr (fun _ => none)))))), (ad2, .inr (3, [.ref (u3 0), .ref (u3 3), .ref (u3 4), .ref (u3 5), .int 0, .int 0, .int 0, .int 0, .int 0])), ((u3 0), .inr (1, [.ref (u3 1), .ref (u3 2)])), ((u3 1), .inl (G.2.2.1, 24, .inl res.1)), ((u3 2), .inl (G.2.2.1, 24, .inl res.2)), ((u3 3), .inl (G.2.2.1, 12, .inl (fun _ => 0))), ((u3 4), .inl (G.2.2.1, 12, .inl (fun _ => 0))), ((u3 5), .inl (G.2.2.1, 12, .inl (fun _ => 0)))] := hD
  refine W.widen (k := 8) (n := 99) (Nat.le_of_ble_eq_true rfl) (Nat.le_of_ble_eq_true rfl) ?_
  refine astS S hK hP hD hS 1 2 rfl rfl (ok_vp (by decide)) [(hqa, .inr (0, [.ref ad1, .int 0, .int 0])), (ad1, .inl (G.2.2.2, 4, .inr (.inr (.inr (.inr (va_up (fun _ => none) (Int32.toNatClampNeg 0) (some ad2))))))), (ad2, .inr (3, [.ref (u3 0), .ref (u3 3), .ref (u3 4), .ref (u3 5), .int 0, .int 0, .int 0, .int 0, .int 0])), ((u3 0), .inr (1, [.ref (u3 1), .ref (u3 2)])), ((u3 1), .inl (G.2.2.1, 24, .inl res.1)), ((u3 2), .inl (G.2.2.1, 24, .inl res.2)), ((u3 3), .inl (G.2.2.1, 12, .inl (fun _ => 0))), ((u3 4), .inl (G.2.2.1, 12, .inl (fun _ => 0))), ((u3 5), .inl (G.2.2.1, 12, .inl (fun _ => 0)))] rfl dX0_init_31 (fun H locs hP hD hS => ?_)
  refine lv_iinc (v := 1) (lv' := [(1, .int 1), (0, .ref hqa)]) hx hb dX0_init_32 hl (k := 0) rfl (by decide) (by decide) rfl (fun ls hl => ?_)
  refine lv_goto (tgt := 14) hx hb dX0_init_35 (by decide) ?_
  refine lv_iload_n hx hb dX0_init_14 rfl (lv_at hl 0 rfl) ?_
  refine lv_iconst (v := 4) hx hb dX0_init_15 (by decide) ?_
  refine lv_icmp_ge (tgt := 38) hx hb dX0_init_16 (by decide) (fun cn => absurd cn (by decide)) (fun _ => ?_)
  refine lv_aload_n hx hb dX0_init_19 rfl (lv_at hl 1 rfl) ?_
  refine gf S hK iX0 hP 0 rfl rfl 0 (by decide) q117 rfl dX0_init_20 ?_
  refine lv_iload_n hx hb dX0_init_23 rfl (lv_at hl 0 rfl) ?_
  refine nwO S hK iX3 tyX3 tyX3_ok q114 q60 q43 hP hD hS hA rfl (ci := 3) df3 (Nat.le_of_ble_eq_true rfl) (Nat.le_of_ble_eq_true rfl) dX0_init_24 (fun ad4 H hP hD hS => ?_)
  have hP : va_P G.1 vwCl [(hqa, .inr (0, [.ref ad1, .int 0, .int 0])), (ad1, .inl (G.2.2.2, 4, .inr (.inr (.inr (.inr (va_up (fun _ => none) (Int32.toNatClampNeg 0) (some ad2))))))), (ad2, .inr (3, [.ref (u3 0), .ref (u3 3), .ref (u3 4), .ref (u3 5), .int 0, .int 0, .int 0, .int 0, .int 0])), ((u3 0), .inr (1, [.ref (u3 1), .ref (u3 2)])), ((u3 1), .inl (G.2.2.1, 24, .inl res.1)), ((u3 2), .inl (G.2.2.1, 24, .inl res.2)), ((u3 3), .inl (G.2.2.1, 12, .inl (fun _ => 0))), ((u3 4), .inl (G.2.2.1, 12, .inl (fun _ => 0))), ((u3 5), .inl (G.2.2.1, 12, .inl (fun _ => 0))), (ad4, .inr (3, [.null, .null, .null, .null, .int 0, .int 0, .int 0, .int 0, .int 0]))] H := hP
  have hD : va_D A [(hqa, .inr (0, [.ref ad1, .int 0, .int 0])), (ad1, .inl (G.2.2.2, 4, .inr (.inr (.inr (.inr (va_up (fun _ => none) (Int32.toNatClampNeg 0) (some ad2))))))), (ad2, .inr (3, [.ref (u3 0), .ref (u3 3), .ref (u3 4), .ref (u3 5), .int 0, .int 0, .int 0, .int 0, .int 0])), ((u3 0), .inr (1, [.ref (u3 1), .ref (u3 2)])), ((u3 1), .inl (G.2.2.1, 24, .inl res.1)), ((u3 2), .inl (G.2.2.1, 24, .inl res.2)), ((u3 3), .inl (G.2.2.1, 12, .inl (fun _ => 0))), ((u3 4), .inl (G.2.2.1, 12, .inl (fun _ => 0))), ((u3 5), .inl (G.2.2.1, 12, .inl (fun _ => 0))), (ad4, .inr (3, [.null, .null, .null, .null, .int 0, .int 0, .int 0, .int 0, .int 0]))] := hD
  refine W.widen (k := 9) (n := 108) (Nat.le_of_ble_eq_true rfl) (Nat.le_of_ble_eq_true rfl) ?_
  refine lv_dup hx hb dX0_init_27 rfl ?_
  refine ctI (As := []) (rest := [.ref ad4, .int 1, .ref ad1]) (wr := [(hqa, .inr (0, [.ref ad1, .int 0, .int 0])), (ad1, .inl (G.2.2.2, 4, .inr (.inr (.inr (.inr (va_up (fun _ => none) (Int32.toNatClampNeg 0) (some ad2))))))), (ad2, .inr (3, [.ref (u3 0), .ref (u3 3), .ref (u3 4), .ref (u3 5), .int 0, .int 0, .int 0, .int 0, .int 0])), ((u3 0), .inr (1, [.ref (u3 1), .ref (u3 2)])), ((u3 1), .inl (G.2.2.1, 24, .inl res.1)), ((u3 2), .inl (G.2.2.1, 24, .inl res.2)), ((u3 3), .inl (G.2.2.1, 12, .inl (fun _ => 0))), ((u3 4), .inl (G.2.2.1, 12, .inl (fun _ => 0))), ((u3 5), .inl (G.2.2.1, 12, .inl (fun _ => 0)))]) (W' := w_X3_init G ad4 res) S hK (c_X3_init l G ad4 _ res h) mX3_init q116 ⟨rfl, rfl, Nat.le_of_ble_eq_true rfl, Nat.le_of_ble_eq_true rfl⟩ hP hD hS hA [9] [0, 1, 2, 3, 4, 5, 6, 7, 8] rfl rfl (by decide) (by decide) (by decide) rfl hl.1 (Nat.le_of_ble_eq_true rfl) ⟨Nat.le_of_ble_eq_true rfl, Nat.le_of_ble_eq_true rfl⟩ dX0_init_28 (fun u5 H locs hP hD hS => ?_)
  have hP : va_P G.1 vwCl [(hqa, .inr (0, [.ref ad1, .int 0, .int 0])), (ad1, .inl (G.2.2.2, 4, .inr (.inr (.inr (.inr (va_up (fun _ => none) (Int32.toNatClampNeg 0) (some ad2))))))), (ad2, .inr (3, [.ref (u3 0), .ref (u3 3), .ref (u3 4), .ref (u3 5), .int 0, .int 0, .int 0, .int 0, .int 0])), ((u3 0), .inr (1, [.ref (u3 1), .ref (u3 2)])), ((u3 1), .inl (G.2.2.1, 24, .inl res.1)), ((u3 2), .inl (G.2.2.1, 24, .inl res.2)), ((u3 3), .inl (G.2.2.1, 12, .inl (fun _ => 0))), ((u3 4), .inl (G.2.2.1, 12, .inl (fun _ => 0))), ((u3 5), .inl (G.2.2.1, 12, .inl (fun _ => 0))), (ad4, .inr (3, [.ref (u5 0), .ref (u5 3), .ref (u5 4), .ref (u5 5), .int 0, .int 0, .int 0, .int 0, .int 0])), ((u5 0), .inr (1, [.ref (u5 1), .ref (u5 2)])), ((u5 1), .inl (G.2.2.1, 24, .inl res.1)), ((u5 2), .inl (G.2.2.1, 24, .inl res.2)), ((u5 3), .inl (G.2.2.1, 12, .inl (fun _ => 0))), ((u5 4), .inl (G.2.2.1, 12, .inl (fun _ => 0))), ((u5 5), .inl (G.2.2.1, 12, .inl (fun _ => 0)))] H := hP
  have hD : va_D A [(hqa, .inr (0, [.ref ad1, .int 0, .int 0])), (ad1, .inl (G.2.2.2, 4, .inr (.inr (.inr (.inr (va_up (fun _ => none) (Int32.toNatClampNeg 0) (some ad2))))))), (ad2, .inr (3, [.ref (u3 0), .ref (u3 3), .ref (u3 4), .ref (u3 5), .int 0, .int 0, .int 0, .int 0, .int 0])), ((u3 0), .inr (1, [.ref (u3 1), .ref (u3 2)])), ((u3 1), .inl (G.2.2.1, 24, .inl res.1)), ((u3 2), .inl (G.2.2.1, 24, .inl res.2)), ((u3 3), .inl (G.2.2.1, 12, .inl (fun _ => 0))), ((u3 4), .inl (G.2.2.1, 12, .inl (fun _ => 0))), ((u3 5), .inl (G.2.2.1, 12, .inl (fun _ => 0))), (ad4, .inr (3, [.ref (u5 0), .ref (u5 3), .ref (u5 4), .ref (u5 5), .int 0, .int 0, .int 0, .int 0, .int 0])), ((u5 0), .inr (1, [.ref (u5 1), .ref (u5 2)])), ((u5 1), .inl (G.2.2.1, 24, .inl res.1)), ((u5 2), .inl (G.2.2.1, 24, .inl res.2)), ((u5 3), .inl (G.2.2.1, 12, .inl (fun _ => 0))), ((u5 4), .inl (G.2.2.1, 12, .inl (fun _ => 0))), ((u5 5), .inl (G.2.2.1, 12, .inl (fun _ => 0)))] := hD
  refine W.widen (k := 15) (n := 194) (Nat.le_of_ble_eq_true rfl) (Nat.le_of_ble_eq_true rfl) ?_
  refine astS S hK hP hD hS 1 9 rfl rfl (ok_vp (by decide)) [(hqa, .inr (0, [.ref ad1, .int 0, .int 0])), (ad1, .inl (G.2.2.2, 4, .inr (.inr (.inr (.inr (va_up (va_up (fun _ => none) (Int32.toNatClampNeg 0) (some ad2)) (Int32.toNatClampNeg 1) (some ad4))))))), (ad2, .inr (3, [.ref (u3 0), .ref (u3 3), .ref (u3 4), .ref (u3 5), .int 0, .int 0, .int 0, .int 0, .int 0])), ((u3 0), .inr (1, [.ref (u3 1), .ref (u3 2)])), ((u3 1), .inl (G.2.2.1, 24, .inl res.1)), ((u3 2), .inl (G.2.2.1, 24, .inl res.2)), ((u3 3), .inl (G.2.2.1, 12, .inl (fun _ => 0))), ((u3 4), .inl (G.2.2.1, 12, .inl (fun _ => 0))), ((u3 5), .inl (G.2.2.1, 12, .inl (fun _ => 0))), (ad4, .inr (3, [.ref (u5 0), .ref (u5 3), .ref (u5 4), .ref (u5 5), .int 0, .int 0, .int 0, .int 0, .int 0])), ((u5 0), .inr (1, [.ref (u5 1), .ref (u5 2)])), ((u5 1), .inl (G.2.2.1, 24, .inl res.1)), ((u5 2), .inl (G.2.2.1, 24, .inl res.2)), ((u5 3), .inl (G.2.2.1, 12, .inl (fun _ => 0))), ((u5 4), .inl (G.2.2.1, 12, .inl (fun _ => 0))), ((u5 5), .inl (G.2.2.1, 12, .inl (fun _ => 0)))] rfl dX0_init_31 (fun H locs hP hD hS => ?_)
  refine lv_iinc (v := 2) (lv' := [(1, .int 2), (0, .ref hqa)]) hx hb dX0_init_32 hl (k := 0) rfl (by decide) (by decide) rfl (fun ls hl => ?_)
  refine lv_goto (tgt := 14) hx hb dX0_init_35 (by decide) ?_
  refine lv_iload_n hx hb dX0_init_14 rfl (lv_at hl 0 rfl) ?_
  refine lv_iconst (v := 4) hx hb dX0_init_15 (by decide) ?_
  refine lv_icmp_ge (tgt := 38) hx hb dX0_init_16 (by decide) (fun cn => absurd cn (by decide)) (fun _ => ?_)
  refine lv_aload_n hx hb dX0_init_19 rfl (lv_at hl 1 rfl) ?_
  refine gf S hK iX0 hP 0 rfl rfl 0 (by decide) q117 rfl dX0_init_20 ?_
  refine lv_iload_n hx hb dX0_init_23 rfl (lv_at hl 0 rfl) ?_
  refine nwO S hK iX3 tyX3 tyX3_ok q114 q60 q43 hP hD hS hA rfl (ci := 3) df3 (Nat.le_of_ble_eq_true rfl) (Nat.le_of_ble_eq_true rfl) dX0_init_24 (fun ad6 H hP hD hS => ?_)
  have hP : va_P G.1 vwCl [(hqa, .inr (0, [.ref ad1, .int 0, .int 0])), (ad1, .inl (G.2.2.2, 4, .inr (.inr (.inr (.inr (va_up (va_up (fun _ => none) (Int32.toNatClampNeg 0) (some ad2)) (Int32.toNatClampNeg 1) (some ad4))))))), (ad2, .inr (3, [.ref (u3 0), .ref (u3 3), .ref (u3 4), .ref (u3 5), .int 0, .int 0, .int 0, .int 0, .int 0])), ((u3 0), .inr (1, [.ref (u3 1), .ref (u3 2)])), ((u3 1), .inl (G.2.2.1, 24, .inl res.1)), ((u3 2), .inl (G.2.2.1, 24, .inl res.2)), ((u3 3), .inl (G.2.2.1, 12, .inl (fun _ => 0))), ((u3 4), .inl (G.2.2.1, 12, .inl (fun _ => 0))), ((u3 5), .inl (G.2.2.1, 12, .inl (fun _ => 0))), (ad4, .inr (3, [.ref (u5 0), .ref (u5 3), .ref (u5 4), .ref (u5 5), .int 0, .int 0, .int 0, .int 0, .int 0])), ((u5 0), .inr (1, [.ref (u5 1), .ref (u5 2)])), ((u5 1), .inl (G.2.2.1, 24, .inl res.1)), ((u5 2), .inl (G.2.2.1, 24, .inl res.2)), ((u5 3), .inl (G.2.2.1, 12, .inl (fun _ => 0))), ((u5 4), .inl (G.2.2.1, 12, .inl (fun _ => 0))), ((u5 5), .inl (G.2.2.1, 12, .inl (fun _ => 0))), (ad6, .inr (3, [.null, .null, .null, .null, .int 0, .int 0, .int 0, .int 0, .int 0]))] H := hP
  have hD : va_D A [(hqa, .inr (0, [.ref ad1, .int 0, .int 0])), (ad1, .inl (G.2.2.2, 4, .inr (.inr (.inr (.inr (va_up (va_up (fun _ => none) (Int32.toNatClampNeg 0) (some ad2)) (Int32.toNatClampNeg 1) (some ad4))))))), (ad2, .inr (3, [.ref (u3 0), .ref (u3 3), .ref (u3 4), .ref (u3 5), .int 0, .int 0, .int 0, .int 0, .int 0])), ((u3 0), .inr (1, [.ref (u3 1), .ref (u3 2)])), ((u3 1), .inl (G.2.2.1, 24, .inl res.1)), ((u3 2), .inl (G.2.2.1, 24, .inl res.2)), ((u3 3), .inl (G.2.2.1, 12, .inl (fun _ => 0))), ((u3 4), .inl (G.2.2.1, 12, .inl (fun _ => 0))), ((u3 5), .inl (G.2.2.1, 12, .inl (fun _ => 0))), (ad4, .inr (3, [.ref (u5 0), .ref (u5 3), .ref (u5 4), .ref (u5 5), .int 0, .int 0, .int 0, .int 0, .int 0])), ((u5 0), .inr (1, [.ref (u5 1), .ref (u5 2)])), ((u5 1), .inl (G.2.2.1, 24, .inl res.1)), ((u5 2), .inl (G.2.2.1, 24, .inl res.2)), ((u5 3), .inl (G.2.2.1, 12, .inl (fun _ => 0))), ((u5 4), .inl (G.2.2.1, 12, .inl (fun _ => 0))), ((u5 5), .inl (G.2.2.1, 12, .inl (fun _ => 0))), (ad6, .inr (3, [.null, .null, .null, .null, .int 0, .int 0, .int 0, .int 0, .int 0]))] := hD
  refine W.widen (k := 16) (n := 203) (Nat.le_of_ble_eq_true rfl) (Nat.le_of_ble_eq_true rfl) ?_
  refine lv_dup hx hb dX0_init_27 rfl ?_
  refine ctI (As := []) (rest := [.ref ad6, .int 2, .ref ad1]) (wr := [(hqa, .inr (0, [.ref ad1, .int 0, .int 0])), (ad1, .inl (G.2.2.2, 4, .inr (.inr (.inr (.inr (va_up (va_up (fun _ => none) (Int32.toNatClampNeg 0) (some ad2)) (Int32.toNatClampNeg 1) (some ad4))))))), (ad2, .inr (3, [.ref (u3 0), .ref (u3 3), .ref (u3 4), .ref (u3 5), .int 0, .int 0, .int 0, .int 0, .int 0])), ((u3 0), .inr (1, [.ref (u3 1), .ref (u3 2)])), ((u3 1), .inl (G.2.2.1, 24, .inl res.1)), ((u3 2), .inl (G.2.2.1, 24, .inl res.2)), ((u3 3), .inl (G.2.2.1, 12, .inl (fun _ => 0))), ((u3 4), .inl (G.2.2.1, 12, .inl (fun _ => 0))), ((u3 5), .inl (G.2.2.1, 12, .inl (fun _ => 0))), (ad4, .inr (3, [.ref (u5 0), .ref (u5 3), .ref (u5 4), .ref (u5 5), .int 0, .int 0, .int 0, .int 0, .int 0])), ((u5 0), .inr (1, [.ref (u5 1), .ref (u5 2)])), ((u5 1), .inl (G.2.2.1, 24, .inl res.1)), ((u5 2), .inl (G.2.2.1, 24, .inl res.2)), ((u5 3), .inl (G.2.2.1, 12, .inl (fun _ => 0))), ((u5 4), .inl (G.2.2.1, 12, .inl (fun _ => 0))), ((u5 5), .inl (G.2.2.1, 12, .inl (fun _ => 0)))]) (W' := w_X3_init G ad6 res) S hK (c_X3_init l G ad6 _ res h) mX3_init q116 ⟨rfl, rfl, Nat.le_of_ble_eq_true rfl, Nat.le_of_ble_eq_true rfl⟩ hP hD hS hA [16] [0, 1, 2, 3, 4, 5, 6, 7, 8, 9, 10, 11, 12, 13, 14, 15] rfl rfl (by decide) (by decide) (by decide) rfl hl.1 (Nat.le_of_ble_eq_true rfl) ⟨Nat.le_of_ble_eq_true rfl, Nat.le_of_ble_eq_true rfl⟩ dX0_init_28 (fun u7 H locs hP hD hS => ?_)
  have hP : va_P G.1 vwCl [(hqa, .inr (0, [.ref ad1, .int 0, .int 0])), (ad1, .inl (G.2.2.2, 4, .inr (.inr (.inr (.inr (va_up (va_up (fun _ => none) (Int32.toNatClampNeg 0) (some ad2)) (Int32.toNatClampNeg 1) (some ad4))))))), (ad2, .inr (3, [.ref (u3 0), .ref (u3 3), .ref (u3 4), .ref (u3 5), .int 0, .int 0, .int 0, .int 0, .int 0])), ((u3 0), .inr (1, [.ref (u3 1), .ref (u3 2)])), ((u3 1), .inl (G.2.2.1, 24, .inl res.1)), ((u3 2), .inl (G.2.2.1, 24, .inl res.2)), ((u3 3), .inl (G.2.2.1, 12, .inl (fun _ => 0))), ((u3 4), .inl (G.2.2.1, 12, .inl (fun _ => 0))), ((u3 5), .inl (G.2.2.1, 12, .inl (fun _ => 0))), (ad4, .inr (3, [.ref (u5 0), .ref (u5 3), .ref (u5 4), .ref (u5 5), .int 0, .int 0, .int 0, .int 0, .int 0])), ((u5 0), .inr (1, [.ref (u5 1), .ref (u5 2)])), ((u5 1), .inl (G.2.2.1, 24, .inl res.1)), ((u5 2), .inl (G.2.2.1, 24, .inl res.2)), ((u5 3), .inl (G.2.2.1, 12, .inl (fun _ => 0))), ((u5 4), .inl (G.2.2.1, 12, .inl (fun _ => 0))), ((u5 5), .inl (G.2.2.1, 12, .inl (fun _ => 0))), (ad6, .inr (3, [.ref (u7 0), .ref (u7 3), .ref (u7 4), .ref (u7 5), .int 0, .int 0, .int 0, .int 0, .int 0])), ((u7 0), .inr (1, [.ref (u7 1), .ref (u7 2)])), ((u7 1), .inl (G.2.2.1, 24, .inl res.1)), ((u7 2), .inl (G.2.2.1, 24, .inl res.2)), ((u7 3), .inl (G.2.2.1, 12, .inl (fun _ => 0))), ((u7 4), .inl (G.2.2.1, 12, .inl (fun _ => 0))), ((u7 5), .inl (G.2.2.1, 12, .inl (fun _ => 0)))] H := hP
  have hD : va_D A [(hqa, .inr (0, [.ref ad1, .int 0, .int 0])), (ad1, .inl (G.2.2.2, 4, .inr (.inr (.inr (.inr (va_up (va_up (fun _ => none) (Int32.toNatClampNeg 0) (some ad2)) (Int32.toNatClampNeg 1) (some ad4))))))), (ad2, .inr (3, [.ref (u3 0), .ref (u3 3), .ref (u3 4), .ref (u3 5), .int 0, .int 0, .int 0, .int 0, .int 0])), ((u3 0), .inr (1, [.ref (u3 1), .ref (u3 2)])), ((u3 1), .inl (G.2.2.1, 24, .inl res.1)), ((u3 2), .inl (G.2.2.1, 24, .inl res.2)), ((u3 3), .inl (G.2.2.1, 12, .inl (fun _ => 0))), ((u3 4), .inl (G.2.2.1, 12, .inl (fun _ => 0))), ((u3 5), .inl (G.2.2.1, 12, .inl (fun _ => 0))), (ad4, .inr (3, [.ref (u5 0), .ref (u5 3), .ref (u5 4), .ref (u5 5), .int 0, .int 0, .int 0, .int 0, .int 0])), ((u5 0), .inr (1, [.ref (u5 1), .ref (u5 2)])), ((u5 1), .inl (G.2.2.1, 24, .inl res.1)), ((u5 2), .inl (G.2.2.1, 24, .inl res.2)), ((u5 3), .inl (G.2.2.1, 12, .inl (fun _ => 0))), ((u5 4), .inl (G.2.2.1, 12, .inl (fun _ => 0))), ((u5 5), .inl (G.2.2.1, 12, .inl (fun _ => 0))), (ad6, .inr (3, [.ref (u7 0), .ref (u7 3), .ref (u7 4), .ref (u7 5), .int 0, .int 0, .int 0, .int 0, .int 0])), ((u7 0), .inr (1, [.ref (u7 1), .ref (u7 2)])), ((u7 1), .inl (G.2.2.1, 24, .inl res.1)), ((u7 2), .inl (G.2.2.1, 24, .inl res.2)), ((u7 3), .inl (G.2.2.1, 12, .inl (fun _ => 0))), ((u7 4), .inl (G.2.2.1, 12, .inl (fun _ => 0))), ((u7 5), .inl (G.2.2.1, 12, .inl (fun _ => 0)))] := hD
  refine W.widen (k := 22) (n := 289) (Nat.le_of_ble_eq_true rfl) (Nat.le_of_ble_eq_true rfl) ?_
  refine astS S hK hP hD hS 1 16 rfl rfl (ok_vp (by decide)) [(hqa, .inr (0, [.ref ad1, .int 0, .int 0])), (ad1, .inl (G.2.2.2, 4, .inr (.inr (.inr (.inr (va_up (va_up (va_up (fun _ => none) (Int32.toNatClampNeg 0) (some ad2)) (Int32.toNatClampNeg 1) (some ad4)) (Int32.toNatClampNeg 2) (some ad6))))))), (ad2, .inr (3, [.ref (u3 0), .ref (u3 3), .ref (u3 4), .ref (u3 5), .int 0, .int 0, .int 0, .int 0, .int 0])), ((u3 0), .inr (1, [.ref (u3 1), .ref (u3 2)])), ((u3 1), .inl (G.2.2.1, 24, .inl res.1)), ((u3 2), .inl (G.2.2.1, 24, .inl res.2)), ((u3 3), .inl (G.2.2.1, 12, .inl (fun _ => 0))), ((u3 4), .inl (G.2.2.1, 12, .inl (fun _ => 0))), ((u3 5), .inl (G.2.2.1, 12, .inl (fun _ => 0))), (ad4, .inr (3, [.ref (u5 0), .ref (u5 3), .ref (u5 4), .ref (u5 5), .int 0, .int 0, .int 0, .int 0, .int 0])), ((u5 0), .inr (1, [.ref (u5 1), .ref (u5 2)])), ((u5 1), .inl (G.2.2.1, 24, .inl res.1)), ((u5 2), .inl (G.2.2.1, 24, .inl res.2)), ((u5 3), .inl (G.2.2.1, 12, .inl (fun _ => 0))), ((u5 4), .inl (G.2.2.1, 12, .inl (fun _ => 0))), ((u5 5), .inl (G.2.2.1, 12, .inl (fun _ => 0))), (ad6, .inr (3, [.ref (u7 0), .ref (u7 3), .ref (u7 4), .ref (u7 5), .int 0, .int 0, .int 0, .int 0, .int 0])), ((u7 0), .inr (1, [.ref (u7 1), .ref (u7 2)])), ((u7 1), .inl (G.2.2.1, 24, .inl res.1)), ((u7 2), .inl (G.2.2.1, 24, .inl res.2)), ((u7 3), .inl (G.2.2.1, 12, .inl (fun _ => 0))), ((u7 4), .inl (G.2.2.1, 12, .inl (fun _ => 0))), ((u7 5), .inl (G.2.2.1, 12, .inl (fun _ => 0)))] rfl dX0_init_31 (fun H locs hP hD hS => ?_)
  refine lv_iinc (v := 3) (lv' := [(1, .int 3), (0, .ref hqa)]) hx hb dX0_init_32 hl (k := 0) rfl (by decide) (by decide) rfl (fun ls hl => ?_)
  refine lv_goto (tgt := 14) hx hb dX0_init_35 (by decide) ?_
  refine lv_iload_n hx hb dX0_init_14 rfl (lv_at hl 0 rfl) ?_
  refine lv_iconst (v := 4) hx hb dX0_init_15 (by decide) ?_
  refine lv_icmp_ge (tgt := 38) hx hb dX0_init_16 (by decide) (fun cn => absurd cn (by decide)) (fun _ => ?_)
  refine lv_aload_n hx hb dX0_init_19 rfl (lv_at hl 1 rfl) ?_
  refine gf S hK iX0 hP 0 rfl rfl 0 (by decide) q117 rfl dX0_init_20 ?_
  refine lv_iload_n hx hb dX0_init_23 rfl (lv_at hl 0 rfl) ?_
  refine nwO S hK iX3 tyX3 tyX3_ok q114 q60 q43 hP hD hS hA rfl (ci := 3) df3 (Nat.le_of_ble_eq_true rfl) (Nat.le_of_ble_eq_true rfl) dX0_init_24 (fun ad8 H hP hD hS => ?_)
  have hP : va_P G.1 vwCl [(hqa, .inr (0, [.ref ad1, .int 0, .int 0])), (ad1, .inl (G.2.2.2, 4, .inr (.inr (.inr (.inr (va_up (va_up (va_up (fun _ => none) (Int32.toNatClampNeg 0) (some ad2)) (Int32.toNatClampNeg 1) (some ad4)) (Int32.toNatClampNeg 2) (some ad6))))))), (ad2, .inr (3, [.ref (u3 0), .ref (u3 3), .ref (u3 4), .ref (u3 5), .int 0, .int 0, .int 0, .int 0, .int 0])), ((u3 0), .inr (1, [.ref (u3 1), .ref (u3 2)])), ((u3 1), .inl (G.2.2.1, 24, .inl res.1)), ((u3 2), .inl (G.2.2.1, 24, .inl res.2)), ((u3 3), .inl (G.2.2.1, 12, .inl (fun _ => 0))), ((u3 4), .inl (G.2.2.1, 12, .inl (fun _ => 0))), ((u3 5), .inl (G.2.2.1, 12, .inl (fun _ => 0))), (ad4, .inr (3, [.ref (u5 0), .ref (u5 3), .ref (u5 4), .ref (u5 5), .int 0, .int 0, .int 0, .int 0, .int 0])), ((u5 0), .inr (1, [.ref (u5 1), .ref (u5 2)])), ((u5 1), .inl (G.2.2.1, 24, .inl res.1)), ((u5 2), .inl (G.2.2.1, 24, .inl res.2)), ((u5 3), .inl (G.2.2.1, 12, .inl (fun _ => 0))), ((u5 4), .inl (G.2.2.1, 12, .inl (fun _ => 0))), ((u5 5), .inl (G.2.2.1, 12, .inl (fun _ => 0))), (ad6, .inr (3, [.ref (u7 0), .ref (u7 3), .ref (u7 4), .ref (u7 5), .int 0, .int 0, .int 0, .int 0, .int 0])), ((u7 0), .inr (1, [.ref (u7 1), .ref (u7 2)])), ((u7 1), .inl (G.2.2.1, 24, .inl res.1)), ((u7 2), .inl (G.2.2.1, 24, .inl res.2)), ((u7 3), .inl (G.2.2.1, 12, .inl (fun _ => 0))), ((u7 4), .inl (G.2.2.1, 12, .inl (fun _ => 0))), ((u7 5), .inl (G.2.2.1, 12, .inl (fun _ => 0))), (ad8, .inr (3, [.null, .null, .null, .null, .int 0, .int 0, .int 0, .int 0, .int 0]))] H := hP
  have hD : va_D A [(hqa, .inr (0, [.ref ad1, .int 0, .int 0])), (ad1, .inl (G.2.2.2, 4, .inr (.inr (.inr (.inr (va_up (va_up (va_up (fun _ => none) (Int32.toNatClampNeg 0) (some ad2)) (Int32.toNatClampNeg 1) (some ad4)) (Int32.toNatClampNeg 2) (some ad6))))))), (ad2, .inr (3, [.ref (u3 0), .ref (u3 3), .ref (u3 4), .ref (u3 5), .int 0, .int 0, .int 0, .int 0, .int 0])), ((u3 0), .inr (1, [.ref (u3 1), .ref (u3 2)])), ((u3 1), .inl (G.2.2.1, 24, .inl res.1)), ((u3 2), .inl (G.2.2.1, 24, .inl res.2)), ((u3 3), .inl (G.2.2.1, 12, .inl (fun _ => 0))), ((u3 4), .inl (G.2.2.1, 12, .inl (fun _ => 0))), ((u3 5), .inl (G.2.2.1, 12, .inl (fun _ => 0))), (ad4, .inr (3, [.ref (u5 0), .ref (u5 3), .ref (u5 4), .ref (u5 5), .int 0, .int 0, .int 0, .int 0, .int 0])), ((u5 0), .inr (1, [.ref (u5 1), .ref (u5 2)])), ((u5 1), .inl (G.2.2.1, 24, .inl res.1)), ((u5 2), .inl (G.2.2.1, 24, .inl res.2)), ((u5 3), .inl (G.2.2.1, 12, .inl (fun _ => 0))), ((u5 4), .inl (G.2.2.1, 12, .inl (fun _ => 0))), ((u5 5), .inl (G.2.2.1, 12, .inl (fun _ => 0))), (ad6, .inr (3, [.ref (u7 0), .ref (u7 3), .ref (u7 4), .ref (u7 5), .int 0, .int 0, .int 0, .int 0, .int 0])), ((u7 0), .inr (1, [.ref (u7 1), .ref (u7 2)])), ((u7 1), .inl (G.2.2.1, 24, .inl res.1)), ((u7 2), .inl (G.2.2.1, 24, .inl res.2)), ((u7 3), .inl (G.2.2.1, 12, .inl (fun _ => 0))), ((u7 4), .inl (G.2.2.1, 12, .inl (fun _ => 0))), ((u7 5), .inl (G.2.2.1, 12, .inl (fun _ => 0))), (ad8, .inr (3, [.null, .null, .null, .null, .int 0, .int 0, .int 0, .int 0, .int 0]))] := hD
  refine W.widen (k := 23) (n := 298) (Nat.le_of_ble_eq_true rfl) (Nat.le_of_ble_eq_true rfl) ?_
  refine lv_dup hx hb dX0_init_27 rfl ?_
  refine ctI (As := []) (rest := [.ref ad8, .int 3, .ref ad1]) (wr := [(hqa, .inr (0, [.ref ad1, .int 0, .int 0])), (ad1, .inl (G.2.2.2, 4, .inr (.inr (.inr (.inr (va_up (va_up (va_up (fun _ => none) (Int32.toNatClampNeg 0) (some ad2)) (Int32.toNatClampNeg 1) (some ad4)) (Int32.toNatClampNeg 2) (some ad6))))))), (ad2, .inr (3, [.ref (u3 0), .ref (u3 3), .ref (u3 4), .ref (u3 5), .int 0, .int 0, .int 0, .int 0, .int 0])), ((u3 0), .inr (1, [.ref (u3 1), .ref (u3 2)])), ((u3 1), .inl (G.2.2.1, 24, .inl res.1)), ((u3 2), .inl (G.2.2.1, 24, .inl res.2)), ((u3 3), .inl (G.2.2.1, 12, .inl (fun _ => 0))), ((u3 4), .inl (G.2.2.1, 12, .inl (fun _ => 0))), ((u3 5), .inl (G.2.2.1, 12, .inl (fun _ => 0))), (ad4, .inr (3, [.ref (u5 0), .ref (u5 3), .ref (u5 4), .ref (u5 5), .int 0, .int 0, .int 0, .int 0, .int 0])), ((u5 0), .inr (1, [.ref (u5 1), .ref (u5 2)])), ((u5 1), .inl (G.2.2.1, 24, .inl res.1)), ((u5 2), .inl (G.2.2.1, 24, .inl res.2)), ((u5 3), .inl (G.2.2.1, 12, .inl (fun _ => 0))), ((u5 4), .inl (G.2.2.1, 12, .inl (fun _ => 0))), ((u5 5), .inl (G.2.2.1, 12, .inl (fun _ => 0))), (ad6, .inr (3, [.ref (u7 0), .ref (u7 3), .ref (u7 4), .ref (u7 5), .int 0, .int 0, .int 0, .int 0, .int 0])), ((u7 0), .inr (1, [.ref (u7 1), .ref (u7 2)])), ((u7 1), .inl (G.2.2.1, 24, .inl res.1)), ((u7 2), .inl (G.2.2.1, 24, .inl res.2)), ((u7 3), .inl (G.2.2.1, 12, .inl (fun _ => 0))), ((u7 4), .inl (G.2.2.1, 12, .inl (fun _ => 0))), ((u7 5), .inl (G.2.2.1, 12, .inl (fun _ => 0)))]) (W' := w_X3_init G ad8 res) S hK (c_X3_init l G ad8 _ res h) mX3_init q116 ⟨rfl, rfl, Nat.le_of_ble_eq_true rfl, Nat.le_of_ble_eq_true rfl⟩ hP hD hS hA [23] [0, 1, 2, 3, 4, 5, 6, 7, 8, 9, 10, 11, 12, 13, 14, 15, 16, 17, 18, 19, 20, 21, 22] rfl rfl (by decide) (by decide) (by decide) rfl hl.1 (Nat.le_of_ble_eq_true rfl) ⟨Nat.le_of_ble_eq_true rfl, Nat.le_of_ble_eq_true rfl⟩ dX0_init_28 (fun u9 H locs hP hD hS => ?_)
  have hP : va_P G.1 vwCl [(hqa, .inr (0, [.ref ad1, .int 0, .int 0])), (ad1, .inl (G.2.2.2, 4, .inr (.inr (.inr (.inr (va_up (va_up (va_up (fun _ => none) (Int32.toNatClampNeg 0) (some ad2)) (Int32.toNatClampNeg 1) (some ad4)) (Int32.toNatClampNeg 2) (some ad6))))))), (ad2, .inr (3, [.ref (u3 0), .ref (u3 3), .ref (u3 4), .ref (u3 5), .int 0, .int 0, .int 0, .int 0, .int 0])), ((u3 0), .inr (1, [.ref (u3 1), .ref (u3 2)])), ((u3 1), .inl (G.2.2.1, 24, .inl res.1)), ((u3 2), .inl (G.2.2.1, 24, .inl res.2)), ((u3 3), .inl (G.2.2.1, 12, .inl (fun _ => 0))), ((u3 4), .inl (G.2.2.1, 12, .inl (fun _ => 0))), ((u3 5), .inl (G.2.2.1, 12, .inl (fun _ => 0))), (ad4, .inr (3, [.ref (u5 0), .ref (u5 3), .ref (u5 4), .ref (u5 5), .int 0, .int 0, .int 0, .int 0, .int 0])), ((u5 0), .inr (1, [.ref (u5 1), .ref (u5 2)])), ((u5 1), .inl (G.2.2.1, 24, .inl res.1)), ((u5 2), .inl (G.2.2.1, 24, .inl res.2)), ((u5 3), .inl (G.2.2.1, 12, .inl (fun _ => 0))), ((u5 4), .inl (G.2.2.1, 12, .inl (fun _ => 0))), ((u5 5), .inl (G.2.2.1, 12, .inl (fun _ => 0))), (ad6, .inr (3, [.ref (u7 0), .ref (u7 3), .ref (u7 4), .ref (u7 5), .int 0, .int 0, .int 0, .int 0, .int 0])), ((u7 0), .inr (1, [.ref (u7 1), .ref (u7 2)])), ((u7 1), .inl (G.2.2.1, 24, .inl res.1)), ((u7 2), .inl (G.2.2.1, 24, .inl res.2)), ((u7 3), .inl (G.2.2.1, 12, .inl (fun _ => 0))), ((u7 4), .inl (G.2.2.1, 12, .inl (fun _ => 0))), ((u7 5), .inl (G.2.2.1, 12, .inl (fun _ => 0))), (ad8, .inr (3, [.ref (u9 0), .ref (u9 3), .ref (u9 4), .ref (u9 5), .int 0, .int 0, .int 0, .int 0, .int 0])), ((u9 0), .inr (1, [.ref (u9 1), .ref (u9 2)])), ((u9 1), .inl (G.2.2.1, 24, .inl res.1)), ((u9 2), .inl (G.2.2.1, 24, .inl res.2)), ((u9 3), .inl (G.2.2.1, 12, .inl (fun _ => 0))), ((u9 4), .inl (G.2.2.1, 12, .inl (fun _ => 0))), ((u9 5), .inl (G.2.2.1, 12, .inl (fun _ => 0)))] H := hP
  have hD : va_D A [(hqa, .inr (0, [.ref ad1, .int 0, .int 0])), (ad1, .inl (G.2.2.2, 4, .inr (.inr (.inr (.inr (va_up (va_up (va_up (fun _ => none) (Int32.toNatClampNeg 0) (some ad2)) (Int32.toNatClampNeg 1) (some ad4)) (Int32.toNatClampNeg 2) (some ad6))))))), (ad2, .inr (3, [.ref (u3 0), .ref (u3 3), .ref (u3 4), .ref (u3 5), .int 0, .int 0, .int 0, .int 0, .int 0])), ((u3 0), .inr (1, [.ref (u3 1), .ref (u3 2)])), ((u3 1), .inl (G.2.2.1, 24, .inl res.1)), ((u3 2), .inl (G.2.2.1, 24, .inl res.2)), ((u3 3), .inl (G.2.2.1, 12, .inl (fun _ => 0))), ((u3 4), .inl (G.2.2.1, 12, .inl (fun _ => 0))), ((u3 5), .inl (G.2.2.1, 12, .inl (fun _ => 0))), (ad4, .inr (3, [.ref (u5 0), .ref (u5 3), .ref (u5 4), .ref (u5 5), .int 0, .int 0, .int 0, .int 0, .int 0])), ((u5 0), .inr (1, [.ref (u5 1), .ref (u5 2)])), ((u5 1), .inl (G.2.2.1, 24, .inl res.1)), ((u5 2), .inl (G.2.2.1, 24, .inl res.2)), ((u5 3), .inl (G.2.2.1, 12, .inl (fun _ => 0))), ((u5 4), .inl (G.2.2.1, 12, .inl (fun _ => 0))), ((u5 5), .inl (G.2.2.1, 12, .inl (fun _ => 0))), (ad6, .inr (3, [.ref (u7 0), .ref (u7 3), .ref (u7 4), .ref (u7 5), .int 0, .int 0, .int 0, .int 0, .int 0])), ((u7 0), .inr (1, [.ref (u7 1), .ref (u7 2)])), ((u7 1), .inl (G.2.2.1, 24, .inl res.1)), ((u7 2), .inl (G.2.2.1, 24, .inl res.2)), ((u7 3), .inl (G.2.2.1, 12, .inl (fun _ => 0))), ((u7 4), .inl (G.2.2.1, 12, .inl (fun _ => 0))), ((u7 5), .inl (G.2.2.1, 12, .inl (fun _ => 0))), (ad8, .inr (3, [.ref (u9 0), .ref (u9 3), .ref (u9 4), .ref (u9 5), .int 0, .int 0, .int 0, .int 0, .int 0])), ((u9 0), .inr (1, [.ref (u9 1), .ref (u9 2)])), ((u9 1), .inl (G.2.2.1, 24, .inl res.1)), ((u9 2), .inl (G.2.2.1, 24, .inl res.2)), ((u9 3), .inl (G.2.2.1, 12, .inl (fun _ => 0))), ((u9 4), .inl (G.2.2.1, 12, .inl (fun _ => 0))), ((u9 5), .inl (G.2.2.1, 12, .inl (fun _ => 0)))] := hD
  refine W.widen (k := 29) (n := 384) (Nat.le_of_ble_eq_true rfl) (Nat.le_of_ble_eq_true rfl) ?_
  refine astS S hK hP hD hS 1 23 rfl rfl (ok_vp (by decide)) [(hqa, .inr (0, [.ref ad1, .int 0, .int 0])), (ad1, .inl (G.2.2.2, 4, .inr (.inr (.inr (.inr (va_up (va_up (va_up (va_up (fun _ => none) (Int32.toNatClampNeg 0) (some ad2)) (Int32.toNatClampNeg 1) (some ad4)) (Int32.toNatClampNeg 2) (some ad6)) (Int32.toNatClampNeg 3) (some ad8))))))), (ad2, .inr (3, [.ref (u3 0), .ref (u3 3), .ref (u3 4), .ref (u3 5), .int 0, .int 0, .int 0, .int 0, .int 0])), ((u3 0), .inr (1, [.ref (u3 1), .ref (u3 2)])), ((u3 1), .inl (G.2.2.1, 24, .inl res.1)), ((u3 2), .inl (G.2.2.1, 24, .inl res.2)), ((u3 3), .inl (G.2.2.1, 12, .inl (fun _ => 0))), ((u3 4), .inl (G.2.2.1, 12, .inl (fun _ => 0))), ((u3 5), .inl (G.2.2.1, 12, .inl (fun _ => 0))), (ad4, .inr (3, [.ref (u5 0), .ref (u5 3), .ref (u5 4), .ref (u5 5), .int 0, .int 0, .int 0, .int 0, .int 0])), ((u5 0), .inr (1, [.ref (u5 1), .ref (u5 2)])), ((u5 1), .inl (G.2.2.1, 24, .inl res.1)), ((u5 2), .inl (G.2.2.1, 24, .inl res.2)), ((u5 3), .inl (G.2.2.1, 12, .inl (fun _ => 0))), ((u5 4), .inl (G.2.2.1, 12, .inl (fun _ => 0))), ((u5 5), .inl (G.2.2.1, 12, .inl (fun _ => 0))), (ad6, .inr (3, [.ref (u7 0), .ref (u7 3), .ref (u7 4), .ref (u7 5), .int 0, .int 0, .int 0, .int 0, .int 0])), ((u7 0), .inr (1, [.ref (u7 1), .ref (u7 2)])), ((u7 1), .inl (G.2.2.1, 24, .inl res.1)), ((u7 2), .inl (G.2.2.1, 24, .inl res.2)), ((u7 3), .inl (G.2.2.1, 12, .inl (fun _ => 0))), ((u7 4), .inl (G.2.2.1, 12, .inl (fun _ => 0))), ((u7 5), .inl (G.2.2.1, 12, .inl (fun _ => 0))), (ad8, .inr (3, [.ref (u9 0), .ref (u9 3), .ref (u9 4), .ref (u9 5), .int 0, .int 0, .int 0, .int 0, .int 0])), ((u9 0), .inr (1, [.ref (u9 1), .ref (u9 2)])), ((u9 1), .inl (G.2.2.1, 24, .inl res.1)), ((u9 2), .inl (G.2.2.1, 24, .inl res.2)), ((u9 3), .inl (G.2.2.1, 12, .inl (fun _ => 0))), ((u9 4), .inl (G.2.2.1, 12, .inl (fun _ => 0))), ((u9 5), .inl (G.2.2.1, 12, .inl (fun _ => 0)))] rfl dX0_init_31 (fun H locs hP hD hS => ?_)
  refine lv_iinc (v := 4) (lv' := [(1, .int 4), (0, .ref hqa)]) hx hb dX0_init_32 hl (k := 0) rfl (by decide) (by decide) rfl (fun ls hl => ?_)
  refine lv_goto (tgt := 14) hx hb dX0_init_35 (by decide) ?_
  refine lv_iload_n hx hb dX0_init_14 rfl (lv_at hl 0 rfl) ?_
  refine lv_iconst (v := 4) hx hb dX0_init_15 (by decide) ?_
  refine lv_icmp_ge (tgt := 38) hx hb dX0_init_16 (by decide) (fun _ => ?_) (fun cn => absurd (by decide) cn)
  exact retC S hr hlk (adr [ad1, ad2, u3 0, u3 1, u3 2, u3 3, u3 4, u3 5, ad4, u5 0, u5 1, u5 2, u5 3, u5 4, u5 5, ad6, u7 0, u7 1, u7 2, u7 3, u7 4, u7 5, ad8, u9 0, u9 1, u9 2, u9 3, u9 4, u9 5]) (Nat.le_refl _) (Nat.le_refl _) hP hD hS dX0_init_38
def w_X2_init (G : gG) (b : Nat) : (Nat → Nat) → va_W := fun u => [(b, .inr (2, [.ref (u 0), .int 0, .ref (u 1), .int 0, .int 0, .int 0, .int 0, .int 0, .int 0, .int 0])), ((u 0), .inl (G.2.1, 80, .inl (fun _ => 0))), ((u 1), .inl (G.2.2.1, 24, .inl (fun _ => 0)))]
set_option maxHeartbeats 4000000 in
set_option maxRecDepth 100000 in
theorem c_X2_init (l : Launch) (G : gG) (xqa sz : Nat) : CtM l G yX2_init cX2_init 1 (rmc 1 12 2 104) [(xqa, .inr (2, [.null, .int 0, .null, .int 0, .int 0, .int 0, .int 0, .int 0, .int 0, .int 0]))] sz [.ref xqa] (w_X2_init G xqa) 2 104 := by
  refine ofCt (by decide) (Nat.le_of_ble_eq_true rfl) ?_
  intro p e s m below meth c ls A S hr hlk hin hK hP hD hS hA hl
  have S : CallFix p m c cX2_init 1 s ([.ref xqa] : List Value).toArray T0 RX2 := S
  have hin : meth.name = "<init>" := hin
  obtain ⟨hx, hb, hml, hown, hts⟩ := id S
  have hl : lv_has ls 1 [(0, .ref xqa)] := hl
  refine lv_aload_n hx hb dX2_init_0 rfl (lv_at hl 0 rfl) ?_
  refine obI S q132 q57 q58 hl.1 dX2_init_1 (Nat.le_of_ble_eq_true rfl) (Nat.le_of_ble_eq_true rfl) ?_
  refine lv_aload_n hx hb dX2_init_4 rfl (lv_at hl 0 rfl) ?_
  refine lv_bipush (v := 80) hx hb dX2_init_5 (by decide) ?_
  refine nwC S hK hP hD hS hA q164 (by decide) (N' := 80) (by decide) (by decide) (Nat.le_of_ble_eq_true rfl) (Nat.le_of_ble_eq_true rfl) dX2_init_7 (fun ad1 H hP hD hS => ?_)
  have hP : va_P G.1 vwCl [(xqa, .inr (2, [.null, .int 0, .null, .int 0, .int 0, .int 0, .int 0, .int 0, .int 0, .int 0])), (ad1, .inl (G.2.1, 80, .inl (fun _ => 0)))] H := hP
  have hD : va_D A [(xqa, .inr (2, [.null, .int 0, .null, .int 0, .int 0, .int 0, .int 0, .int 0, .int 0, .int 0])), (ad1, .inl (G.2.1, 80, .inl (fun _ => 0)))] := hD
  refine W.widen (k := 1) (n := 80) (Nat.le_of_ble_eq_true rfl) (Nat.le_of_ble_eq_true rfl) ?_
  refine pfF S hK hin iX2 tyX2 tyX2_ok nmX2 hP hD hS 0 rfl rfl 0 (by decide) q133 rfl rfl rfl rfl (Nat.le_of_ble_eq_true rfl) [(xqa, .inr (2, [.ref ad1, .int 0, .null, .int 0, .int 0, .int 0, .int 0, .int 0, .int 0, .int 0])), (ad1, .inl (G.2.1, 80, .inl (fun _ => 0)))] rfl dX2_init_9 (fun H locs hP hD hS => ?_)
  refine lv_aload_n hx hb dX2_init_12 rfl (lv_at hl 0 rfl) ?_
  refine lv_bipush (v := 24) hx hb dX2_init_13 (by decide) ?_
  refine nwI S hK hP hD hS hA q78 (by decide) (N' := 24) (by decide) (by decide) (Nat.le_of_ble_eq_true rfl) (Nat.le_of_ble_eq_true rfl) dX2_init_15 (fun ad2 H hP hD hS => ?_)
  have hP : va_P G.1 vwCl [(xqa, .inr (2, [.ref ad1, .int 0, .null, .int 0, .int 0, .int 0, .int 0, .int 0, .int 0, .int 0])), (ad1, .inl (G.2.1, 80, .inl (fun _ => 0))), (ad2, .inl (G.2.2.1, 24, .inl (fun _ => 0)))] H := hP
  have hD : va_D A [(xqa, .inr (2, [.ref ad1, .int 0, .null, .int 0, .int 0, .int 0, .int 0, .int 0, .int 0, .int 0])), (ad1, .inl (G.2.1, 80, .inl (fun _ => 0))), (ad2, .inl (G.2.2.1, 24, .inl (fun _ => 0)))] := hD
  refine W.widen (k := 2) (n := 104) (Nat.le_of_ble_eq_true rfl) (Nat.le_of_ble_eq_true rfl) ?_
  refine pfF S hK hin iX2 tyX2 tyX2_ok nmX2 hP hD hS 0 rfl rfl 2 (by decide) q135 rfl rfl rfl rfl (Nat.le_of_ble_eq_true rfl) [(xqa, .inr (2, [.ref ad1, .int 0, .ref ad2, .int 0, .int 0, .int 0, .int 0, .int 0, .int 0, .int 0])), (ad1, .inl (G.2.1, 80, .inl (fun _ => 0))), (ad2, .inl (G.2.2.1, 24, .inl (fun _ => 0)))] rfl dX2_init_17 (fun H locs hP hD hS => ?_)
  exact retC S hr hlk (adr [ad1, ad2]) (Nat.le_refl _) (Nat.le_refl _) hP hD hS dX2_init_20
def w_X4_init (G : gG) (b : Nat) (res : (Nat → Int32) × (Nat → Int32)) : (Nat → Nat) → va_W := fun u => [(b, .inr (4, [.ref (u 0), .ref (u 7), .int 0, .ref (u 14), .ref (u 44)])), ((u 0), .inr (3, [.ref (u 1), .ref (u 4), .ref (u 5), .ref (u 6), .int 0, .int 0, .int 0, .int 0, .int 0])), ((u 1), .inr (1, [.ref (u 2), .ref (u 3)])), ((u 2), .inl (G.2.2.1, 24, .inl res.1)), ((u 3), .inl (G.2.2.1, 24, .inl res.2)), ((u 4), .inl (G.2.2.1, 12, .inl (fun _ => 0))), ((u 5), .inl (G.2.2.1, 12, .inl (fun _ => 0))), ((u 6), .inl (G.2.2.1, 12, .inl (fun _ => 0))), ((u 7), .inr (3, [.ref (u 8), .ref (u 11), .ref (u 12), .ref (u 13), .int 0, .int 0, .int 0, .int 0, .int 0])), ((u 8), .inr (1, [.ref (u 9), .ref (u 10)])), ((u 9), .inl (G.2.2.1, 24, .inl res.1)), ((u 10), .inl (G.2.2.1, 24, .inl res.2)), ((u 11), .inl (G.2.2.1, 12, .inl (fun _ => 0))), ((u 12), .inl (G.2.2.1, 12, .inl (fun _ => 0))), ((u 13), .inl (G.2.2.1, 12, .inl (fun _ => 0))), ((u 14), .inr (0, [.ref (u 15), .int 0, .int 0])), ((u 15), .inl (G.2.2.2, 4, .inr (.inr (.inr (.inr (va_up (va_up (va_up (va_up (fun _ => none) (Int32.toNatClampNeg 0) (some (u 16))) (Int32.toNatClampNeg 1) (some (u 23))) (Int32.toNatClampNeg 2) (some (u 30))) (Int32.toNatClampNeg 3) (some (u 37)))))))), ((u 16), .inr (3, [.ref (u 17), .ref (u 20), .ref (u 21), .ref (u 22), .int 0, .int 0, .int 0, .int 0, .int 0])), ((u 17), .inr (1, [.ref (u 18), .ref (u 19)])), ((u 18), .inl (G.2.2.1, 24, .inl res.1)), ((u 19), .inl (G.2.2.1, 24, .inl res.2)), ((u 20), .inl (G.2.2.1, 12, .inl (fun _ => 0))), ((u 21), .inl (G.2.2.1, 12, .inl (fun _ => 0))), ((u 22), .inl (G.2.2.1, 12, .inl (fun _ => 0))), ((u 23), .inr (3, [.ref (u 24), .ref (u 27), .ref (u 28), .ref (u 29), .int 0, .int 0, .int 0, .int 0, .int 0])), ((u 24), .inr (1, [.ref (u 25), .ref (u 26)])), ((u 25), .inl (G.2.2.1, 24, .inl res.1)), ((u 26), .inl (G.2.2.1, 24, .inl res.2)), ((u 27), .inl (G.2.2.1, 12, .inl (fun _ => 0))), ((u 28), .inl (G.2.2.1, 12, .inl (fun _ => 0))), ((u 29), .inl (G.2.2.1, 12, .inl (fun _ => 0))), ((u 30), .inr (3, [.ref (u 31), .ref (u 34), .ref (u 35), .ref (u 36), .int 0, .int 0, .int 0, .int 0, .int 0])), ((u 31), .inr (1, [.ref (u 32), .ref (u 33)])), ((u 32), .inl (G.2.2.1, 24, .inl res.1)), ((u 33), .inl (G.2.2.1, 24, .inl res.2)), ((u 34), .inl (G.2.2.1, 12, .inl (fun _ => 0))), ((u 35), .inl (G.2.2.1, 12, .inl (fun _ => 0))), ((u 36), .inl (G.2.2.1, 12, .inl (fun _ => 0))), ((u 37), .inr (3, [.ref (u 38), .ref (u 41), .ref (u 42), .ref (u 43), .int 0, .int 0, .int 0, .int 0, .int 0])), ((u 38), .inr (1, [.ref (u 39), .ref (u 40)])), ((u 39), .inl (G.2.2.1, 24, .inl res.1)), ((u 40), .inl (G.2.2.1, 24, .inl res.2)), ((u 41), .inl (G.2.2.1, 12, .inl (fun _ => 0))), ((u 42), .inl (G.2.2.1, 12, .inl (fun _ => 0))), ((u 43), .inl (G.2.2.1, 12, .inl (fun _ => 0))), ((u 44), .inr (2, [.ref (u 45), .int 0, .ref (u 46), .int 0, .int 0, .int 0, .int 0, .int 0, .int 0, .int 0])), ((u 45), .inl (G.2.1, 80, .inl (fun _ => 0))), ((u 46), .inl (G.2.2.1, 24, .inl (fun _ => 0)))]
set_option maxHeartbeats 4000000 in
set_option maxRecDepth 100000 in
theorem c_X4_init (l : Launch) (G : gG) (oqa sz : Nat) (res : (Nat → Int32) × (Nat → Int32)) (h : F_X1_init = some res) : CtM l G yX4_init cX4_init 1 (rmc 4 75 47 691) [(oqa, .inr (4, [.null, .null, .int 0, .null, .null]))] sz [.ref oqa] (w_X4_init G oqa res) 47 691 := by
  refine ofCt (by decide) (Nat.le_of_ble_eq_true rfl) ?_
  intro p e s m below meth c ls A S hr hlk hin hK hP hD hS hA hl
  have S : CallFix p m c cX4_init 1 s ([.ref oqa] : List Value).toArray T0 RX4 := S
  have hin : meth.name = "<init>" := hin
  obtain ⟨hx, hb, hml, hown, hts⟩ := id S
  have hl : lv_has ls 1 [(0, .ref oqa)] := hl
  refine lv_aload_n hx hb dX4_init_0 rfl (lv_at hl 0 rfl) ?_
  refine obI S q56 q57 q58 hl.1 dX4_init_1 (Nat.le_of_ble_eq_true rfl) (Nat.le_of_ble_eq_true rfl) ?_
  refine lv_aload_n hx hb dX4_init_4 rfl (lv_at hl 0 rfl) ?_
  refine nwO S hK iX3 tyX3 tyX3_ok q59 q60 q43 hP hD hS hA rfl (ci := 3) df3 (Nat.le_of_ble_eq_true rfl) (Nat.le_of_ble_eq_true rfl) dX4_init_5 (fun ad1 H hP hD hS => ?_)
  have hP : va_P G.1 vwCl [(oqa, .inr (4, [.null, .null, .int 0, .null, .null])), (ad1, .inr (3, [.null, .null, .null, .null, .int 0, .int 0, .int 0, .int 0, .int 0]))] H := hP
  have hD : va_D A [(oqa, .inr (4, [.null, .null, .int 0, .null, .null])), (ad1, .inr (3, [.null, .null, .null, .null, .int 0, .int 0, .int 0, .int 0, .int 0]))] := hD
  refine W.widen (k := 1) (n := 9) (Nat.le_of_ble_eq_true rfl) (Nat.le_of_ble_eq_true rfl) ?_
  refine lv_dup hx hb dX4_init_8 rfl ?_
  refine ctI (As := []) (rest := [.ref ad1, .ref oqa]) (wr := [(oqa, .inr (4, [.null, .null, .int 0, .null, .null]))]) (W' := w_X3_init G ad1 res) S hK (c_X3_init l G ad1 _ res h) mX3_init q61 ⟨rfl, rfl, Nat.le_of_ble_eq_true rfl, Nat.le_of_ble_eq_true rfl⟩ hP hD hS hA [1] [0] rfl rfl (by decide) (by decide) (by decide) rfl hl.1 (Nat.le_of_ble_eq_true rfl) ⟨Nat.le_of_ble_eq_true rfl, Nat.le_of_ble_eq_true rfl⟩ dX4_init_9 (fun u2 H locs hP hD hS => ?_)
  have hP : va_P G.1 vwCl [(oqa, .inr (4, [.null, .null, .int 0, .null, .null])), (ad1, .inr (3, [.ref (u2 0), .ref (u2 3), .ref (u2 4), .ref (u2 5), .int 0, .int 0, .int 0, .int 0, .int 0])), ((u2 0), .inr (1, [.ref (u2 1), .ref (u2 2)])), ((u2 1), .inl (G.2.2.1, 24, .inl res.1)), ((u2 2), .inl (G.2.2.1, 24, .inl res.2)), ((u2 3), .inl (G.2.2.1, 12, .inl (fun _ => 0))), ((u2 4), .inl (G.2.2.1, 12, .inl (fun _ => 0))), ((u2 5), .inl (G.2.2.1, 12, .inl (fun _ => 0)))] H := hP
  have hD : va_D A [(oqa, .inr (4, [.null, .null, .int 0, .null, .null])), (ad1, .inr (3, [.ref (u2 0), .ref (u2 3), .ref (u2 4), .ref (u2 5), .int 0, .int 0, .int 0, .int 0, .int 0])), ((u2 0), .inr (1, [.ref (u2 1), .ref (u2 2)])), ((u2 1), .inl (G.2.2.1, 24, .inl res.1)), ((u2 2), .inl (G.2.2.1, 24, .inl res.2)), ((u2 3), .inl (G.2.2.1, 12, .inl (fun _ => 0))), ((u2 4), .inl (G.2.2.1, 12, .inl (fun _ => 0))), ((u2 5), .inl (G.2.2.1, 12, .inl (fun _ => 0)))] := hD
  refine W.widen (k := 7) (n := 95) (Nat.le_of_ble_eq_true rfl) (Nat.le_of_ble_eq_true rfl) ?_
  refine pfF S hK hin iX4 tyX4 tyX4_ok nmX4 hP hD hS 0 rfl rfl 0 (by decide) q165 rfl rfl rfl rfl (Nat.le_of_ble_eq_true rfl) [(oqa, .inr (4, [.ref ad1, .null, .int 0, .null, .null])), (ad1, .inr (3, [.ref (u2 0), .ref (u2 3), .ref (u2 4), .ref (u2 5), .int 0, .int 0, .int 0, .int 0, .int 0])), ((u2 0), .inr (1, [.ref (u2 1), .ref (u2 2)])), ((u2 1), .inl (G.2.2.1, 24, .inl res.1)), ((u2 2), .inl (G.2.2.1, 24, .inl res.2)), ((u2 3), .inl (G.2.2.1, 12, .inl (fun _ => 0))), ((u2 4), .inl (G.2.2.1, 12, .inl (fun _ => 0))), ((u2 5), .inl (G.2.2.1, 12, .inl (fun _ => 0)))] rfl dX4_init_12 (fun H locs hP hD hS => ?_)
  refine lv_aload_n hx hb dX4_init_15 rfl (lv_at hl 0 rfl) ?_
  refine nwO S hK iX3 tyX3 tyX3_ok q59 q60 q43 hP hD hS hA rfl (ci := 3) df3 (Nat.le_of_ble_eq_true rfl) (Nat.le_of_ble_eq_true rfl) dX4_init_16 (fun ad3 H hP hD hS => ?_)
  have hP : va_P G.1 vwCl [(oqa, .inr (4, [.ref ad1, .null, .int 0, .null, .null])), (ad1, .inr (3, [.ref (u2 0), .ref (u2 3), .ref (u2 4), .ref (u2 5), .int 0, .int 0, .int 0, .int 0, .int 0])), ((u2 0), .inr (1, [.ref (u2 1), .ref (u2 2)])), ((u2 1), .inl (G.2.2.1, 24, .inl res.1)), ((u2 2), .inl (G.2.2.1, 24, .inl res.2)), ((u2 3), .inl (G.2.2.1, 12, .inl (fun _ => 0))), ((u2 4), .inl (G.2.2.1, 12, .inl (fun _ => 0))), ((u2 5), .inl (G.2.2.1, 12, .inl (fun _ => 0))), (ad3, .inr (3, [.null, .null, .null, .null, .int 0, .int 0, .int 0, .int 0, .int 0]))] H := hP
  have hD : va_D A [(oqa, .inr (4, [.ref ad1, .null, .int 0, .null, .null])), (ad1, .inr (3, [.ref (u2 0), .ref (u2 3), .ref (u2 4), .ref (u2 5), .int 0, .int 0, .int 0, .int 0, .int 0])), ((u2 0), .inr (1, [.ref (u2 1), .ref (u2 2)])), ((u2 1), .inl (G.2.2.1, 24, .inl res.1)), ((u2 2), .inl (G.2.2.1, 24, .inl res.2)), ((u2 3), .inl (G.2.2.1, 12, .inl (fun _ => 0))), ((u2 4), .inl (G.2.2.1, 12, .inl (fun _ => 0))), ((u2 5), .inl (G.2.2.1, 12, .inl (fun _ => 0))), (ad3, .inr (3, [.null, .null, .null, .null, .int 0, .int 0, .int 0, .int 0, .int 0]))] := hD
  refine W.widen (k := 8) (n := 104) (Nat.le_of_ble_eq_true rfl) (Nat.le_of_ble_eq_true rfl) ?_
  refine lv_dup hx hb dX4_init_19 rfl ?_
  refine ctI (As := []) (rest := [.ref ad3, .ref oqa]) (wr := [(oqa, .inr (4, [.ref ad1, .null, .int 0, .null, .null])), (ad1, .inr (3, [.ref (u2 0), .ref (u2 3), .ref (u2 4), .ref (u2 5), .int 0, .int 0, .int 0, .int 0, .int 0])), ((u2 0), .inr (1, [.ref (u2 1), .ref (u2 2)])), ((u2 1), .inl (G.2.2.1, 24, .inl res.1)), ((u2 2), .inl (G.2.2.1, 24, .inl res.2)), ((u2 3), .inl (G.2.2.1, 12, .inl (fun _ => 0))), ((u2 4), .inl (G.2.2.1, 12, .inl (fun _ => 0))), ((u2 5), .inl (G.2.2.1, 12, .inl (fun _ => 0)))]) (W' := w_X3_init G ad3 res) S hK (c_X3_init l G ad3 _ res h) mX3_init q61 ⟨rfl, rfl, Nat.le_of_ble_eq_true rfl, Nat.le_of_ble_eq_true rfl⟩ hP hD hS hA [8] [0, 1, 2, 3, 4, 5, 6, 7] rfl rfl (by decide) (by decide) (by decide) rfl hl.1 (Nat.le_of_ble_eq_true rfl) ⟨Nat.le_of_ble_eq_true rfl, Nat.le_of_ble_eq_true rfl⟩ dX4_init_20 (fun u4 H locs hP hD hS => ?_)
  have hP : va_P G.1 vwCl [(oqa, .inr (4, [.ref ad1, .null, .int 0, .null, .null])), (ad1, .inr (3, [.ref (u2 0), .ref (u2 3), .ref (u2 4), .ref (u2 5), .int 0, .int 0, .int 0, .int 0, .int 0])), ((u2 0), .inr (1, [.ref (u2 1), .ref (u2 2)])), ((u2 1), .inl (G.2.2.1, 24, .inl res.1)), ((u2 2), .inl (G.2.2.1, 24, .inl res.2)), ((u2 3), .inl (G.2.2.1, 12, .inl (fun _ => 0))), ((u2 4), .inl (G.2.2.1, 12, .inl (fun _ => 0))), ((u2 5), .inl (G.2.2.1, 12, .inl (fun _ => 0))), (ad3, .inr (3, [.ref (u4 0), .ref (u4 3), .ref (u4 4), .ref (u4 5), .int 0, .int 0, .int 0, .int 0, .int 0])), ((u4 0), .inr (1, [.ref (u4 1), .ref (u4 2)])), ((u4 1), .inl (G.2.2.1, 24, .inl res.1)), ((u4 2), .inl (G.2.2.1, 24, .inl res.2)), ((u4 3), .inl (G.2.2.1, 12, .inl (fun _ => 0))), ((u4 4), .inl (G.2.2.1, 12, .inl (fun _ => 0))), ((u4 5), .inl (G.2.2.1, 12, .inl (fun _ => 0)))] H := hP
  have hD : va_D A [(oqa, .inr (4, [.ref ad1, .null, .int 0, .null, .null])), (ad1, .inr (3, [.ref (u2 0), .ref (u2 3), .ref (u2 4), .ref (u2 5), .int 0, .int 0, .int 0, .int 0, .int 0])), ((u2 0), .inr (1, [.ref (u2 1), .ref (u2 2)])), ((u2 1), .inl (G.2.2.1, 24, .inl res.1)), ((u2 2), .inl (G.2.2.1, 24, .inl res.2)), ((u2 3), .inl (G.2.2.1, 12, .inl (fun _ => 0))), ((u2 4), .inl (G.2.2.1, 12, .inl (fun _ => 0))), ((u2 5), .inl (G.2.2.1, 12, .inl (fun _ => 0))), (ad3, .inr (3, [.ref (u4 0), .ref (u4 3), .ref (u4 4), .ref (u4 5), .int 0, .int 0, .int 0, .int 0, .int 0])), ((u4 0), .inr (1, [.ref (u4 1), .ref (u4 2)])), ((u4 1), .inl (G.2.2.1, 24, .inl res.1)), ((u4 2), .inl (G.2.2.1, 24, .inl res.2)), ((u4 3), .inl (G.2.2.1, 12, .inl (fun _ => 0))), ((u4 4), .inl (G.2.2.1, 12, .inl (fun _ => 0))), ((u4 5), .inl (G.2.2.1, 12, .inl (fun _ => 0)))] := hD
  refine W.widen (k := 14) (n := 190) (Nat.le_of_ble_eq_true rfl) (Nat.le_of_ble_eq_true rfl) ?_
  refine pfF S hK hin iX4 tyX4 tyX4_ok nmX4 hP hD hS 0 rfl rfl 1 (by decide) q166 rfl rfl rfl rfl (Nat.le_of_ble_eq_true rfl) [(oqa, .inr (4, [.ref ad1, .ref ad3, .int 0, .null, .null])), (ad1, .inr (3, [.ref (u2 0), .ref (u2 3), .ref (u2 4), .ref (u2 5), .int 0, .int 0, .int 0, .int 0, .int 0])), ((u2 0), .inr (1, [.ref (u2 1), .ref (u2 2)])), ((u2 1), .inl (G.2.2.1, 24, .inl res.1)), ((u2 2), .inl (G.2.2.1, 24, .inl res.2)), ((u2 3), .inl (G.2.2.1, 12, .inl (fun _ => 0))), ((u2 4), .inl (G.2.2.1, 12, .inl (fun _ => 0))), ((u2 5), .inl (G.2.2.1, 12, .inl (fun _ => 0))), (ad3, .inr (3, [.ref (u4 0), .ref (u4 3), .ref (u4 4), .ref (u4 5), .int 0, .int 0, .int 0, .int 0, .int 0])), ((u4 0), .inr (1, [.ref (u4 1), .ref (u4 2)])), ((u4 1), .inl (G.2.2.1, 24, .inl res.1)), ((u4 2), .inl (G.2.2.1, 24, .inl res.2)), ((u4 3), .inl (G.2.2.1, 12, .inl (fun _ => 0))), ((u4 4), .inl (G.2.2.1, 12, .inl (fun _ => 0))), ((u4 5), .inl (G.2.2.1, 12, .inl (fun _ => 0)))] rfl dX4_init_23 (fun H locs hP hD hS => ?_)
  refine lv_aload_n hx hb dX4_init_26 rfl (lv_at hl 0 rfl) ?_
  refine lv_iconst (v := 0) hx hb dX4_init_27 (by decide) ?_
  refine pf S hK iX4 tyX4 tyX4_ok nmX4 hP hD hS 0 rfl rfl 2 (by decide) q167 rfl rfl rfl (Nat.le_of_ble_eq_true rfl) [(oqa, .inr (4, [.ref ad1, .ref ad3, .int 0, .null, .null])), (ad1, .inr (3, [.ref (u2 0), .ref (u2 3), .ref (u2 4), .ref (u2 5), .int 0, .int 0, .int 0, .int 0, .int 0])), ((u2 0), .inr (1, [.ref (u2 1), .ref (u2 2)])), ((u2 1), .inl (G.2.2.1, 24, .inl res.1)), ((u2 2), .inl (G.2.2.1, 24, .inl res.2)), ((u2 3), .inl (G.2.2.1, 12, .inl (fun _ => 0))), ((u2 4), .inl (G.2.2.1, 12, .inl (fun _ => 0))), ((u2 5), .inl (G.2.2.1, 12, .inl (fun _ => 0))), (ad3, .inr (3, [.ref (u4 0), .ref (u4 3), .ref (u4 4), .ref (u4 5), .int 0, .int 0, .int 0, .int 0, .int 0])), ((u4 0), .inr (1, [.ref (u4 1), .ref (u4 2)])), ((u4 1), .inl (G.2.2.1, 24, .inl res.1)), ((u4 2), .inl (G.2.2.1, 24, .inl res.2)), ((u4 3), .inl (G.2.2.1, 12, .inl (fun _ => 0))), ((u4 4), .inl (G.2.2.1, 12, .inl (fun _ => 0))), ((u4 5), .inl (G.2.2.1, 12, .inl (fun _ => 0)))] rfl dX4_init_28 (fun H locs hP hD hS => ?_)
  refine lv_aload_n hx hb dX4_init_31 rfl (lv_at hl 0 rfl) ?_
  refine nwO S hK iX0 tyX0 tyX0_ok q108 q109 q45 hP hD hS hA rfl (ci := 0) df0 (Nat.le_of_ble_eq_true rfl) (Nat.le_of_ble_eq_true rfl) dX4_init_32 (fun ad5 H hP hD hS => ?_)
  have hP : va_P G.1 vwCl [(oqa, .inr (4, [.ref ad1, .ref ad3, .int 0, .null, .null])), (ad1, .inr (3, [.ref (u2 0), .ref (u2 3), .ref (u2 4), .ref (u2 5), .int 0, .int 0, .int 0, .int 0, .int 0])), ((u2 0), .inr (1, [.ref (u2 1), .ref (u2 2)])), ((u2 1), .inl (G.2.2.1, 24, .inl res.1)), ((u2 2), .inl (G.2.2.1, 24, .inl res.2)), ((u2 3), .inl (G.2.2.1, 12, .inl (fun _ => 0))), ((u2 4), .inl (G.2.2.1, 12, .inl (fun _ => 0))), ((u2 5), .inl (G.2.2.1, 12, .inl (fun _ => 0))), (ad3, .inr (3, [.ref (u4 0), .ref (u4 3), .ref (u4 4), .ref (u4 5), .int 0, .int 0, .int 0, .int 0, .int 0])), ((u4 0), .inr (1, [.ref (u4 1), .ref (u4 2)])), ((u4 1), .inl (G.2.2.1, 24, .inl res.1)), ((u4 2), .inl (G.2.2.1, 24, .inl res.2)), ((u4 3), .inl (G.2.2.1, 12, .inl (fun _ => 0))), ((u4 4), .inl (G.2.2.1, 12, .inl (fun _ => 0))), ((u4 5), .inl (G.2.2.1, 12, .inl (fun _ => 0))), (ad5, .inr (0, [.null, .int 0, .int 0]))] H := hP
  have hD : va_D A [(oqa, .inr (4, [.ref ad1, .ref ad3, .int 0, .null, .null])), (ad1, .inr (3, [.ref (u2 0), .ref (u2 3), .ref (u2 4), .ref (u2 5), .int 0, .int 0, .int 0, .int 0, .int 0])), ((u2 0), .inr (1, [.ref (u2 1), .ref (u2 2)])), ((u2 1), .inl (G.2.2.1, 24, .inl res.1)), ((u2 2), .inl (G.2.2.1, 24, .inl res.2)), ((u2 3), .inl (G.2.2.1, 12, .inl (fun _ => 0))), ((u2 4), .inl (G.2.2.1, 12, .inl (fun _ => 0))), ((u2 5), .inl (G.2.2.1, 12, .inl (fun _ => 0))), (ad3, .inr (3, [.ref (u4 0), .ref (u4 3), .ref (u4 4), .ref (u4 5), .int 0, .int 0, .int 0, .int 0, .int 0])), ((u4 0), .inr (1, [.ref (u4 1), .ref (u4 2)])), ((u4 1), .inl (G.2.2.1, 24, .inl res.1)), ((u4 2), .inl (G.2.2.1, 24, .inl res.2)), ((u4 3), .inl (G.2.2.1, 12, .inl (fun _ => 0))), ((u4 4), .inl (G.2.2.1, 12, .inl (fun _ => 0))), ((u4 5), .inl (G.2.2.1, 12, .inl (fun _ => 0))), (ad5, .inr (0, [.null, .int 0, .int 0]))] := hD
  refine W.widen (k := 15) (n := 193) (Nat.le_of_ble_eq_true rfl) (Nat.le_of_ble_eq_true rfl) ?_
  refine lv_dup hx hb dX4_init_35 rfl ?_
  refine ctI (As := []) (rest := [.ref ad5, .ref oqa]) (wr := [(oqa, .inr (4, [.ref ad1, .ref ad3, .int 0, .null, .null])), (ad1, .inr (3, [.ref (u2 0), .ref (u2 3), .ref (u2 4), .ref (u2 5), .int 0, .int 0, .int 0, .int 0, .int 0])), ((u2 0), .inr (1, [.ref (u2 1), .ref (u2 2)])), ((u2 1), .inl (G.2.2.1, 24, .inl res.1)), ((u2 2), .inl (G.2.2.1, 24, .inl res.2)), ((u2 3), .inl (G.2.2.1, 12, .inl (fun _ => 0))), ((u2 4), .inl (G.2.2.1, 12, .inl (fun _ => 0))), ((u2 5), .inl (G.2.2.1, 12, .inl (fun _ => 0))), (ad3, .inr (3, [.ref (u4 0), .ref (u4 3), .ref (u4 4), .ref (u4 5), .int 0, .int 0, .int 0, .int 0, .int 0])), ((u4 0), .inr (1, [.ref (u4 1), .ref (u4 2)])), ((u4 1), .inl (G.2.2.1, 24, .inl res.1)), ((u4 2), .inl (G.2.2.1, 24, .inl res.2)), ((u4 3), .inl (G.2.2.1, 12, .inl (fun _ => 0))), ((u4 4), .inl (G.2.2.1, 12, .inl (fun _ => 0))), ((u4 5), .inl (G.2.2.1, 12, .inl (fun _ => 0)))]) (W' := w_X0_init G ad5 res) S hK (c_X0_init l G ad5 _ res h) mX0_init q110 ⟨rfl, rfl, Nat.le_of_ble_eq_true rfl, Nat.le_of_ble_eq_true rfl⟩ hP hD hS hA [15] [0, 1, 2, 3, 4, 5, 6, 7, 8, 9, 10, 11, 12, 13, 14] rfl rfl (by decide) (by decide) (by decide) rfl hl.1 (Nat.le_of_ble_eq_true rfl) ⟨Nat.le_of_ble_eq_true rfl, Nat.le_of_ble_eq_true rfl⟩ dX4_init_36 (fun u6 H locs hP hD hS => ?_)
  have hP : va_P G.1 vwCl [(oqa, .inr (4, [.ref ad1, .ref ad3, .int 0, .null, .null])), (ad1, .inr (3, [.ref (u2 0), .ref (u2 3), .ref (u2 4), .ref (u2 5), .int 0, .int 0, .int 0, .int 0, .int 0])), ((u2 0), .inr (1, [.ref (u2 1), .ref (u2 2)])), ((u2 1), .inl (G.2.2.1, 24, .inl res.1)), ((u2 2), .inl (G.2.2.1, 24, .inl res.2)), ((u2 3), .inl (G.2.2.1, 12, .inl (fun _ => 0))), ((u2 4), .inl (G.2.2.1, 12, .inl (fun _ => 0))), ((u2 5), .inl (G.2.2.1, 12, .inl (fun _ => 0))), (ad3, .inr (3, [.ref (u4 0), .ref (u4 3), .ref (u4 4), .ref (u4 5), .int 0, .int 0, .int 0, .int 0, .int 0])), ((u4 0), .inr (1, [.ref (u4 1), .ref (u4 2)])), ((u4 1), .inl (G.2.2.1, 24, .inl res.1)), ((u4 2), .inl (G.2.2.1, 24, .inl res.2)), ((u4 3), .inl (G.2.2.1, 12, .inl (fun _ => 0))), ((u4 4), .inl (G.2.2.1, 12, .inl (fun _ => 0))), ((u4 5), .inl (G.2.2.1, 12, .inl (fun _ => 0))), (ad5, .inr (0, [.ref (u6 0), .int 0, .int 0])), ((u6 0), .inl (G.2.2.2, 4, .inr (.inr (.inr (.inr (va_up (va_up (va_up (va_up (fun _ => none) (Int32.toNatClampNeg 0) (some (u6 1))) (Int32.toNatClampNeg 1) (some (u6 8))) (Int32.toNatClampNeg 2) (some (u6 15))) (Int32.toNatClampNeg 3) (some (u6 22)))))))), ((u6 1), .inr (3, [.ref (u6 2), .ref (u6 5), .ref (u6 6), .ref (u6 7), .int 0, .int 0, .int 0, .int 0, .int 0])), ((u6 2), .inr (1, [.ref (u6 3), .ref (u6 4)])), ((u6 3), .inl (G.2.2.1, 24, .inl res.1)), ((u6 4), .inl (G.2.2.1, 24, .inl res.2)), ((u6 5), .inl (G.2.2.1, 12, .inl (fun _ => 0))), ((u6 6), .inl (G.2.2.1, 12, .inl (fun _ => 0))), ((u6 7), .inl (G.2.2.1, 12, .inl (fun _ => 0))), ((u6 8), .inr (3, [.ref (u6 9), .ref (u6 12), .ref (u6 13), .ref (u6 14), .int 0, .int 0, .int 0, .int 0, .int 0])), ((u6 9), .inr (1, [.ref (u6 10), .ref (u6 11)])), ((u6 10), .inl (G.2.2.1, 24, .inl res.1)), ((u6 11), .inl (G.2.2.1, 24, .inl res.2)), ((u6 12), .inl (G.2.2.1, 12, .inl (fun _ => 0))), ((u6 13), .inl (G.2.2.1, 12, .inl (fun _ => 0))), ((u6 14), .inl (G.2.2.1, 12, .inl (fun _ => 0))), ((u6 15), .inr (3, [.ref (u6 16), .ref (u6 19), .ref (u6 20), .ref (u6 21), .int 0, .int 0, .int 0, .int 0, .int 0])), ((u6 16), .inr (1, [.ref (u6 17), .ref (u6 18)])), ((u6 17), .inl (G.2.2.1, 24, .inl res.1)), ((u6 18), .inl (G.2.2.1, 24, .inl res.2)), ((u6 19), .inl (G.2.2.1, 12, .inl (fun _ => 0))), ((u6 20), .inl (G.2.2.1, 12, .inl (fun _ => 0))), ((u6 21), .inl (G.2.2.1, 12, .inl (fun _ => 0))), ((u6 22), .inr (3, [.ref (u6 23), .ref (u6 26), .ref (u6 27), .ref (u6 28), .int 0, .int 0, .int 0, .int 0, .int 0])), ((u6 23), .inr (1, [.ref (u6 24), .ref (u6 25)])), ((u6 24), .inl (G.2.2.1, 24, .inl res.1)), ((u6 25), .inl (G.2.2.1, 24, .inl res.2)), ((u6 26), .inl (G.2.2.1, 12, .inl (fun _ => 0))), ((u6 27), .inl (G.2.2.1, 12, .inl (fun _ => 0))), ((u6 28), .inl (G.2.2.1, 12, .inl (fun _ => 0)))] H := hP
  have hD : va_D A [(oqa, .inr (4, [.ref ad1, .ref ad3, .int 0, .null, .null])), (ad1, .inr (3, [.ref (u2 0), .ref (u2 3), .ref (u2 4), .ref (u2 5), .int 0, .int 0, .int 0, .int 0, .int 0])), ((u2 0), .inr (1, [.ref (u2 1), .ref (u2 2)])), ((u2 1), .inl (G.2.2.1, 24, .inl res.1)), ((u2 2), .inl (G.2.2.1, 24, .inl res.2)), ((u2 3), .inl (G.2.2.1, 12, .inl (fun _ => 0))), ((u2 4), .inl (G.2.2.1, 12, .inl (fun _ => 0))), ((u2 5), .inl (G.2.2.1, 12, .inl (fun _ => 0))), (ad3, .inr (3, [.ref (u4 0), .ref (u4 3), .ref (u4 4), .ref (u4 5), .int 0, .int 0, .int 0, .int 0, .int 0])), ((u4 0), .inr (1, [.ref (u4 1), .ref (u4 2)])), ((u4 1), .inl (G.2.2.1, 24, .inl res.1)), ((u4 2), .inl (G.2.2.1, 24, .inl res.2)), ((u4 3), .inl (G.2.2.1, 12, .inl (fun _ => 0))), ((u4 4), .inl (G.2.2.1, 12, .inl (fun _ => 0))), ((u4 5), .inl (G.2.2.1, 12, .inl (fun _ => 0))), (ad5, .inr (0, [.ref (u6 0), .int 0, .int 0])), ((u6 0), .inl (G.2.2.2, 4, .inr (.inr (.inr (.inr (va_up (va_up (va_up (va_up (fun _ => none) (Int32.toNatClampNeg 0) (some (u6 1))) (Int32.toNatClampNeg 1) (some (u6 8))) (Int32.toNatClampNeg 2) (some (u6 15))) (Int32.toNatClampNeg 3) (some (u6 22)))))))), ((u6 1), .inr (3, [.ref (u6 2), .ref (u6 5), .ref (u6 6), .ref (u6 7), .int 0, .int 0, .int 0, .int 0, .int 0])), ((u6 2), .inr (1, [.ref (u6 3), .ref (u6 4)])), ((u6 3), .inl (G.2.2.1, 24, .inl res.1)), ((u6 4), .inl (G.2.2.1, 24, .inl res.2)), ((u6 5), .inl (G.2.2.1, 12, .inl (fun _ => 0))), ((u6 6), .inl (G.2.2.1, 12, .inl (fun _ => 0))), ((u6 7), .inl (G.2.2.1, 12, .inl (fun _ => 0))), ((u6 8), .inr (3, [.ref (u6 9), .ref (u6 12), .ref (u6 13), .ref (u6 14), .int 0, .int 0, .int 0, .int 0, .int 0])), ((u6 9), .inr (1, [.ref (u6 10), .ref (u6 11)])), ((u6 10), .inl (G.2.2.1, 24, .inl res.1)), ((u6 11), .inl (G.2.2.1, 24, .inl res.2)), ((u6 12), .inl (G.2.2.1, 12, .inl (fun _ => 0))), ((u6 13), .inl (G.2.2.1, 12, .inl (fun _ => 0))), ((u6 14), .inl (G.2.2.1, 12, .inl (fun _ => 0))), ((u6 15), .inr (3, [.ref (u6 16), .ref (u6 19), .ref (u6 20), .ref (u6 21), .int 0, .int 0, .int 0, .int 0, .int 0])), ((u6 16), .inr (1, [.ref (u6 17), .ref (u6 18)])), ((u6 17), .inl (G.2.2.1, 24, .inl res.1)), ((u6 18), .inl (G.2.2.1, 24, .inl res.2)), ((u6 19), .inl (G.2.2.1, 12, .inl (fun _ => 0))), ((u6 20), .inl (G.2.2.1, 12, .inl (fun _ => 0))), ((u6 21), .inl (G.2.2.1, 12, .inl (fun _ => 0))), ((u6 22), .inr (3, [.ref (u6 23), .ref (u6 26), .ref (u6 27), .ref (u6 28), .int 0, .int 0, .int 0, .int 0, .int 0])), ((u6 23), .inr (1, [.ref (u6 24), .ref (u6 25)])), ((u6 24), .inl (G.2.2.1, 24, .inl res.1)), ((u6 25), .inl (G.2.2.1, 24, .inl res.2)), ((u6 26), .inl (G.2.2.1, 12, .inl (fun _ => 0))), ((u6 27), .inl (G.2.2.1, 12, .inl (fun _ => 0))), ((u6 28), .inl (G.2.2.1, 12, .inl (fun _ => 0)))] := hD
  refine W.widen (k := 44) (n := 577) (Nat.le_of_ble_eq_true rfl) (Nat.le_of_ble_eq_true rfl) ?_
  refine pfF S hK hin iX4 tyX4 tyX4_ok nmX4 hP hD hS 0 rfl rfl 3 (by decide) q168 rfl rfl rfl rfl (Nat.le_of_ble_eq_true rfl) [(oqa, .inr (4, [.ref ad1, .ref ad3, .int 0, .ref ad5, .null])), (ad1, .inr (3, [.ref (u2 0), .ref (u2 3), .ref (u2 4), .ref (u2 5), .int 0, .int 0, .int 0, .int 0, .int 0])), ((u2 0), .inr (1, [.ref (u2 1), .ref (u2 2)])), ((u2 1), .inl (G.2.2.1, 24, .inl res.1)), ((u2 2), .inl (G.2.2.1, 24, .inl res.2)), ((u2 3), .inl (G.2.2.1, 12, .inl (fun _ => 0))), ((u2 4), .inl (G.2.2.1, 12, .inl (fun _ => 0))), ((u2 5), .inl (G.2.2.1, 12, .inl (fun _ => 0))), (ad3, .inr (3, [.ref (u4 0), .ref (u4 3), .ref (u4 4), .ref (u4 5), .int 0, .int 0, .int 0, .int 0, .int 0])), ((u4 0), .inr (1, [.ref (u4 1), .ref (u4 2)])), ((u4 1), .inl (G.2.2.1, 24, .inl res.1)), ((u4 2), .inl (G.2.2.1, 24, .inl res.2)), ((u4 3), .inl (G.2.2.1, 12, .inl (fun _ => 0))), ((u4 4), .inl (G.2.2.1, 12, .inl (fun _ => 0))), ((u4 5), .inl (G.2.2.1, 12, .inl (fun _ => 0))), (ad5, .inr (0, [.ref (u6 0), .int 0, .int 0])), ((u6 0), .inl (G.2.2.2, 4, .inr (.inr (.inr (.inr (va_up (va_up (va_up (va_up (fun _ => none) (Int32.toNatClampNeg 0) (some (u6 1))) (Int32.toNatClampNeg 1) (some (u6 8))) (Int32.toNatClampNeg 2) (some (u6 15))) (Int32.toNatClampNeg 3) (some (u6 22)))))))), ((u6 1), .inr (3, [.ref (u6 2), .ref (u6 5), .ref (u6 6), .ref (u6 7), .int 0, .int 0, .int 0, .int 0, .int 0])), ((u6 2), .inr (1, [.ref (u6 3), .ref (u6 4)])), ((u6 3), .inl (G.2.2.1, 24, .inl res.1)), ((u6 4), .inl (G.2.2.1, 24, .inl res.2)), ((u6 5), .inl (G.2.2.1, 12, .inl (fun _ => 0))), ((u6 6), .inl (G.2.2.1, 12, .inl (fun _ => 0))), ((u6 7), .inl (G.2.2.1, 12, .inl (fun _ => 0))), ((u6 8), .inr (3, [.ref (u6 9), .ref (u6 12), .ref (u6 13), .ref (u6 14), .int 0, .int 0, .int 0, .int 0, .int 0])), ((u6 9), .inr (1, [.ref (u6 10), .ref (u6 11)])), ((u6 10), .inl (G.2.2.1, 24, .inl res.1)), ((u6 11), .inl (G.2.2.1, 24, .inl res.2)), ((u6 12), .inl (G.2.2.1, 12, .inl (fun _ => 0))), ((u6 13), .inl (G.2.2.1, 12, .inl (fun _ => 0))), ((u6 14), .inl (G.2.2.1, 12, .inl (fun _ => 0))), ((u6 15), .inr (3, [.ref (u6 16), .ref (u6 19), .ref (u6 20), .ref (u6 21), .int 0, .int 0, .int 0, .int 0, .int 0])), ((u6 16), .inr (1, [.ref (u6 17), .ref (u6 18)])), ((u6 17), .inl (G.2.2.1, 24, .inl res.1)), ((u6 18), .inl (G.2.2.1, 24, .inl res.2)), ((u6 19), .inl (G.2.2.1, 12, .inl (fun _ => 0))), ((u6 20), .inl (G.2.2.1, 12, .inl (fun _ => 0))), ((u6 21), .inl (G.2.2.1, 12, .inl (fun _ => 0))), ((u6 22), .inr (3, [.ref (u6 23), .ref (u6 26), .ref (u6 27), .ref (u6 28), .int 0, .int 0, .int 0, .int 0, .int 0])), ((u6 23), .inr (1, [.ref (u6 24), .ref (u6 25)])), ((u6 24), .inl (G.2.2.1, 24, .inl res.1)), ((u6 25), .inl (G.2.2.1, 24, .inl res.2)), ((u6 26), .inl (G.2.2.1, 12, .inl (fun _ => 0))), ((u6 27), .inl (G.2.2.1, 12, .inl (fun _ => 0))), ((u6 28), .inl (G.2.2.1, 12, .inl (fun _ => 0)))] rfl dX4_init_39 (fun H locs hP hD hS => ?_)
  refine lv_aload_n hx hb dX4_init_42 rfl (lv_at hl 0 rfl) ?_
  refine nwO S hK iX2 tyX2 tyX2_ok q127 q128 q46 hP hD hS hA rfl (ci := 2) df2 (Nat.le_of_ble_eq_true rfl) (Nat.le_of_ble_eq_true rfl) dX4_init_43 (fun ad7 H hP hD hS => ?_)
  have hP : va_P G.1 vwCl [(oqa, .inr (4, [.ref ad1, .ref ad3, .int 0, .ref ad5, .null])), (ad1, .inr (3, [.ref (u2 0), .ref (u2 3), .ref (u2 4), .ref (u2 5), .int 0, .int 0, .int 0, .int 0, .int 0])), ((u2 0), .inr (1, [.ref (u2 1), .ref (u2 2)])), ((u2 1), .inl (G.2.2.1, 24, .inl res.1)), ((u2 2), .inl (G.2.2.1, 24, .inl res.2)), ((u2 3), .inl (G.2.2.1, 12, .inl (fun _ => 0))), ((u2 4), .inl (G.2.2.1, 12, .inl (fun _ => 0))), ((u2 5), .inl (G.2.2.1, 12, .inl (fun _ => 0))), (ad3, .inr (3, [.ref (u4 0), .ref (u4 3), .ref (u4 4), .ref (u4 5), .int 0, .int 0, .int 0, .int 0, .int 0])), ((u4 0), .inr (1, [.ref (u4 1), .ref (u4 2)])), ((u4 1), .inl (G.2.2.1, 24, .inl res.1)), ((u4 2), .inl (G.2.2.1, 24, .inl res.2)), ((u4 3), .inl (G.2.2.1, 12, .inl (fun _ => 0))), ((u4 4), .inl (G.2.2.1, 12, .inl (fun _ => 0))), ((u4 5), .inl (G.2.2.1, 12, .inl (fun _ => 0))), (ad5, .inr (0, [.ref (u6 0), .int 0, .int 0])), ((u6 0), .inl (G.2.2.2, 4, .inr (.inr (.inr (.inr (va_up (va_up (va_up (va_up (fun _ => none) (Int32.toNatClampNeg 0) (some (u6 1))) (Int32.toNatClampNeg 1) (some (u6 8))) (Int32.toNatClampNeg 2) (some (u6 15))) (Int32.toNatClampNeg 3) (some (u6 22)))))))), ((u6 1), .inr (3, [.ref (u6 2), .ref (u6 5), .ref (u6 6), .ref (u6 7), .int 0, .int 0, .int 0, .int 0, .int 0])), ((u6 2), .inr (1, [.ref (u6 3), .ref (u6 4)])), ((u6 3), .inl (G.2.2.1, 24, .inl res.1)), ((u6 4), .inl (G.2.2.1, 24, .inl res.2)), ((u6 5), .inl (G.2.2.1, 12, .inl (fun _ => 0))), ((u6 6), .inl (G.2.2.1, 12, .inl (fun _ => 0))), ((u6 7), .inl (G.2.2.1, 12, .inl (fun _ => 0))), ((u6 8), .inr (3, [.ref (u6 9), .ref (u6 12), .ref (u6 13), .ref (u6 14), .int 0, .int 0, .int 0, .int 0, .int 0])), ((u6 9), .inr (1, [.ref (u6 10), .ref (u6 11)])), ((u6 10), .inl (G.2.2.1, 24, .inl res.1)), ((u6 11), .inl (G.2.2.1, 24, .inl res.2)), ((u6 12), .inl (G.2.2.1, 12, .inl (fun _ => 0))), ((u6 13), .inl (G.2.2.1, 12, .inl (fun _ => 0))), ((u6 14), .inl (G.2.2.1, 12, .inl (fun _ => 0))), ((u6 15), .inr (3, [.ref (u6 16), .ref (u6 19), .ref (u6 20), .ref (u6 21), .int 0, .int 0, .int 0, .int 0, .int 0])), ((u6 16), .inr (1, [.ref (u6 17), .ref (u6 18)])), ((u6 17), .inl (G.2.2.1, 24, .inl res.1)), ((u6 18), .inl (G.2.2.1, 24, .inl res.2)), ((u6 19), .inl (G.2.2.1, 12, .inl (fun _ => 0))), ((u6 20), .inl (G.2.2.1, 12, .inl (fun _ => 0))), ((u6 21), .inl (G.2.2.1, 12, .inl (fun _ => 0))), ((u6 22), .inr (3, [.ref (u6 23), .ref (u6 26), .ref (u6 27), .ref (u6 28), .int 0, .int 0, .int 0, .int 0, .int 0])), ((u6 23), .inr (1, [.ref (u6 24), .ref (u6 25)])), ((u6 24), .inl (G.2.2.1, 24, .inl res.1)), ((u6 25), .inl (G.2.2.1, 24, .inl res.2)), ((u6 26), .inl (G.2.2.1, 12, .inl (fun _ => 0))), ((u6 27), .inl (G.2.2.1, 12, .inl (fun _ => 0))), ((u6 28), .inl (G.2.2.1, 12, .inl (fun _ => 0))), (ad7, .inr (2, [.null, .int 0, .null, .int 0, .int 0, .int 0, .int 0, .int 0, .int 0, .int 0]))] H := hP
  have hD : va_D A [(oqa, .inr (4, [.ref ad1, .ref ad3, .int 0, .ref ad5, .null])), (ad1, .inr (3, [.ref (u2 0), .ref (u2 3), .ref (u2 4), .ref (u2 5), .int 0, .int 0, .int 0, .int 0, .int 0])), ((u2 0), .inr (1, [.ref (u2 1), .ref (u2 2)])), ((u2 1), .inl (G.2.2.1, 24, .inl res.1)), ((u2 2), .inl (G.2.2.1, 24, .inl res.2)), ((u2 3), .inl (G.2.2.1, 12, .inl (fun _ => 0))), ((u2 4), .inl (G.2.2.1, 12, .inl (fun _ => 0))), ((u2 5), .inl (G.2.2.1, 12, .inl (fun _ => 0))), (ad3, .inr (3, [.ref (u4 0), .ref (u4 3), .ref (u4 4), .ref (u4 5), .int 0, .int 0, .int 0, .int 0, .int 0])), ((u4 0), .inr (1, [.ref (u4 1), .ref (u4 2)])), ((u4 1), .inl (G.2.2.1, 24, .inl res.1)), ((u4 2), .inl (G.2.2.1, 24, .inl res.2)), ((u4 3), .inl (G.2.2.1, 12, .inl (fun _ => 0))), ((u4 4), .inl (G.2.2.1, 12, .inl (fun _ => 0))), ((u4 5), .inl (G.2.2.1, 12, .inl (fun _ => 0))), (ad5, .inr (0, [.ref (u6 0), .int 0, .int 0])), ((u6 0), .inl (G.2.2.2, 4, .inr (.inr (.inr (.inr (va_up (va_up (va_up (va_up (fun _ => none) (Int32.toNatClampNeg 0) (some (u6 1))) (Int32.toNatClampNeg 1) (some (u6 8))) (Int32.toNatClampNeg 2) (some (u6 15))) (Int32.toNatClampNeg 3) (some (u6 22)))))))), ((u6 1), .inr (3, [.ref (u6 2), .ref (u6 5), .ref (u6 6), .ref (u6 7), .int 0, .int 0, .int 0, .int 0, .int 0])), ((u6 2), .inr (1, [.ref (u6 3), .ref (u6 4)])), ((u6 3), .inl (G.2.2.1, 24, .inl res.1)), ((u6 4), .inl (G.2.2.1, 24, .inl res.2)), ((u6 5), .inl (G.2.2.1, 12, .inl (fun _ => 0))), ((u6 6), .inl (G.2.2.1, 12, .inl (fun _ => 0))), ((u6 7), .inl (G.2.2.1, 12, .inl (fun _ => 0))), ((u6 8), .inr (3, [.ref (u6 9), .ref (u6 12), .ref (u6 13), .ref (u6 14), .int 0, .int 0, .int 0, .int 0, .int 0])), ((u6 9), .inr (1, [.ref (u6 10), .ref (u6 11)])), ((u6 10), .inl (G.2.2.1, 24, .inl res.1)), ((u6 11), .inl (G.2.2.1, 24, .inl res.2)), ((u6 12), .inl (G.2.2.1, 12, .inl (fun _ => 0))), ((u6 13), .inl (G.2.2.1, 12, .inl (fun _ => 0))), ((u6 14), .inl (G.2.2.1, 12, .inl (fun _ => 0))), ((u6 15), .inr (3, [.ref (u6 16), .ref (u6 19), .ref (u6 20), .ref (u6 21), .int 0, .int 0, .int 0, .int 0, .int 0])), ((u6 16), .inr (1, [.ref (u6 17), .ref (u6 18)])), ((u6 17), .inl (G.2.2.1, 24, .inl res.1)), ((u6 18), .inl (G.2.2.1, 24, .inl res.2)), ((u6 19), .inl (G.2.2.1, 12, .inl (fun _ => 0))), ((u6 20), .inl (G.2.2.1, 12, .inl (fun _ => 0))), ((u6 21), .inl (G.2.2.1, 12, .inl (fun _ => 0))), ((u6 22), .inr (3, [.ref (u6 23), .ref (u6 26), .ref (u6 27), .ref (u6 28), .int 0, .int 0, .int 0, .int 0, .int 0])), ((u6 23), .inr (1, [.ref (u6 24), .ref (u6 25)])), ((u6 24), .inl (G.2.2.1, 24, .inl res.1)), ((u6 25), .inl (G.2.2.1, 24, .inl res.2)), ((u6 26), .inl (G.2.2.1, 12, .inl (fun _ => 0))), ((u6 27), .inl (G.2.2.1, 12, .inl (fun _ => 0))), ((u6 28), .inl (G.2.2.1, 12, .inl (fun _ => 0))), (ad7, .inr (2, [.null, .int 0, .null, .int 0, .int 0, .int 0, .int 0, .int 0, .int 0, .int 0]))] := hD
  refine W.widen (k := 45) (n := 587) (Nat.le_of_ble_eq_true rfl) (Nat.le_of_ble_eq_true rfl) ?_
  refine lv_dup hx hb dX4_init_46 rfl ?_
  refine ctI (As := []) (rest := [.ref ad7, .ref oqa]) (wr := [(oqa, .inr (4, [.ref ad1, .ref ad3, .int 0, .ref ad5, .null])), (ad1, .inr (3, [.ref (u2 0), .ref (u2 3), .ref (u2 4), .ref (u2 5), .int 0, .int 0, .int 0, .int 0, .int 0])), ((u2 0), .inr (1, [.ref (u2 1), .ref (u2 2)])), ((u2 1), .inl (G.2.2.1, 24, .inl res.1)), ((u2 2), .inl (G.2.2.1, 24, .inl res.2)), ((u2 3), .inl (G.2.2.1, 12, .inl (fun _ => 0))), ((u2 4), .inl (G.2.2.1, 12, .inl (fun _ => 0))), ((u2 5), .inl (G.2.2.1, 12, .inl (fun _ => 0))), (ad3, .inr (3, [.ref (u4 0), .ref (u4 3), .ref (u4 4), .ref (u4 5), .int 0, .int 0, .int 0, .int 0, .int 0])), ((u4 0), .inr (1, [.ref (u4 1), .ref (u4 2)])), ((u4 1), .inl (G.2.2.1, 24, .inl res.1)), ((u4 2), .inl (G.2.2.1, 24, .inl res.2)), ((u4 3), .inl (G.2.2.1, 12, .inl (fun _ => 0))), ((u4 4), .inl (G.2.2.1, 12, .inl (fun _ => 0))), ((u4 5), .inl (G.2.2.1, 12, .inl (fun _ => 0))), (ad5, .inr (0, [.ref (u6 0), .int 0, .int 0])), ((u6 0), .inl (G.2.2.2, 4, .inr (.inr (.inr (.inr (va_up (va_up (va_up (va_up (fun _ => none) (Int32.toNatClampNeg 0) (some (u6 1))) (Int32.toNatClampNeg 1) (some (u6 8))) (Int32.toNatClampNeg 2) (some (u6 15))) (Int32.toNatClampNeg 3) (some (u6 22)))))))), ((u6 1), .inr (3, [.ref (u6 2), .ref (u6 5), .ref (u6 6), .ref (u6 7), .int 0, .int 0, .int 0, .int 0, .int 0])), ((u6 2), .inr (1, [.ref (u6 3), .ref (u6 4)])), ((u6 3), .inl (G.2.2.1, 24, .inl res.1)), ((u6 4), .inl (G.2.2.1, 24, .inl res.2)), ((u6 5), .inl (G.2.2.1, 12, .inl (fun _ => 0))), ((u6 6), .inl (G.2.2.1, 12, .inl (fun _ => 0))), ((u6 7), .inl (G.2.2.1, 12, .inl (fun _ => 0))), ((u6 8), .inr (3, [.ref (u6 9), .ref (u6 12), .ref (u6 13), .ref (u6 14), .int 0, .int 0, .int 0, .int 0, .int 0])), ((u6 9), .inr (1, [.ref (u6 10), .ref (u6 11)])), ((u6 10), .inl (G.2.2.1, 24, .inl res.1)), ((u6 11), .inl (G.2.2.1, 24, .inl res.2)), ((u6 12), .inl (G.2.2.1, 12, .inl (fun _ => 0))), ((u6 13), .inl (G.2.2.1, 12, .inl (fun _ => 0))), ((u6 14), .inl (G.2.2.1, 12, .inl (fun _ => 0))), ((u6 15), .inr (3, [.ref (u6 16), .ref (u6 19), .ref (u6 20), .ref (u6 21), .int 0, .int 0, .int 0, .int 0, .int 0])), ((u6 16), .inr (1, [.ref (u6 17), .ref (u6 18)])), ((u6 17), .inl (G.2.2.1, 24, .inl res.1)), ((u6 18), .inl (G.2.2.1, 24, .inl res.2)), ((u6 19), .inl (G.2.2.1, 12, .inl (fun _ => 0))), ((u6 20), .inl (G.2.2.1, 12, .inl (fun _ => 0))), ((u6 21), .inl (G.2.2.1, 12, .inl (fun _ => 0))), ((u6 22), .inr (3, [.ref (u6 23), .ref (u6 26), .ref (u6 27), .ref (u6 28), .int 0, .int 0, .int 0, .int 0, .int 0])), ((u6 23), .inr (1, [.ref (u6 24), .ref (u6 25)])), ((u6 24), .inl (G.2.2.1, 24, .inl res.1)), ((u6 25), .inl (G.2.2.1, 24, .inl res.2)), ((u6 26), .inl (G.2.2.1, 12, .inl (fun _ => 0))), ((u6 27), .inl (G.2.2.1, 12, .inl (fun _ => 0))), ((u6 28), .inl (G.2.2.1, 12, .inl (fun _ => 0)))]) (W' := w_X2_init G ad7) S hK (c_X2_init l G ad7 _) mX2_init q129 ⟨rfl, rfl, Nat.le_of_ble_eq_true rfl, Nat.le_of_ble_eq_true rfl⟩ hP hD hS hA [45] [0, 1, 2, 3, 4, 5, 6, 7, 8, 9, 10, 11, 12, 13, 14, 15, 16, 17, 18, 19, 20, 21, 22, 23, 24, 25, 26, 27, 28, 29, 30, 31, 32, 33, 34, 35, 36, 37, 38, 39, 40, 41, 42, 43, 44] rfl rfl (by decide) (by decide) (by decide) rfl hl.1 (Nat.le_of_ble_eq_true rfl) ⟨Nat.le_of_ble_eq_true rfl, Nat.le_of_ble_eq_true rfl⟩ dX4_init_47 (fun u8 H locs hP hD hS => ?_)
  have hP : va_P G.1 vwCl [(oqa, .inr (4, [.ref ad1, .ref ad3, .int 0, .ref ad5, .null])), (ad1, .inr (3, [.ref (u2 0), .ref (u2 3), .ref (u2 4), .ref (u2 5), .int 0, .int 0, .int 0, .int 0, .int 0])), ((u2 0), .inr (1, [.ref (u2 1), .ref (u2 2)])), ((u2 1), .inl (G.2.2.1, 24, .inl res.1)), ((u2 2), .inl (G.2.2.1, 24, .inl res.2)), ((u2 3), .inl (G.2.2.1, 12, .inl (fun _ => 0))), ((u2 4), .inl (G.2.2.1, 12, .inl (fun _ => 0))), ((u2 5), .inl (G.2.2.1, 12, .inl (fun _ => 0))), (ad3, .inr (3, [.ref (u4 0), .ref (u4 3), .ref (u4 4), .ref (u4 5), .int 0, .int 0, .int 0, .int 0, .int 0])), ((u4 0), .inr (1, [.ref (u4 1), .ref (u4 2)])), ((u4 1), .inl (G.2.2.1, 24, .inl res.1)), ((u4 2), .inl (G.2.2.1, 24, .inl res.2)), ((u4 3), .inl (G.2.2.1, 12, .inl (fun _ => 0))), ((u4 4), .inl (G.2.2.1, 12, .inl (fun _ => 0))), ((u4 5), .inl (G.2.2.1, 12, .inl (fun _ => 0))), (ad5, .inr (0, [.ref (u6 0), .int 0, .int 0])), ((u6 0), .inl (G.2.2.2, 4, .inr (.inr (.inr (.inr (va_up (va_up (va_up (va_up (fun _ => none) (Int32.toNatClampNeg 0) (some (u6 1))) (Int32.toNatClampNeg 1) (some (u6 8))) (Int32.toNatClampNeg 2) (some (u6 15))) (Int32.toNatClampNeg 3) (some (u6 22)))))))), ((u6 1), .inr (3, [.ref (u6 2), .ref (u6 5), .ref (u6 6), .ref (u6 7), .int 0, .int 0, .int 0, .int 0, .int 0])), ((u6 2), .inr (1, [.ref (u6 3), .ref (u6 4)])), ((u6 3), .inl (G.2.2.1, 24, .inl res.1)), ((u6 4), .inl (G.2.2.1, 24, .inl res.2)), ((u6 5), .inl (G.2.2.1, 12, .inl (fun _ => 0))), ((u6 6), .inl (G.2.2.1, 12, .inl (fun _ => 0))), ((u6 7), .inl (G.2.2.1, 12, .inl (fun _ => 0))), ((u6 8), .inr (3, [.ref (u6 9), .ref (u6 12), .ref (u6 13), .ref (u6 14), .int 0, .int 0, .int 0, .int 0, .int 0])), ((u6 9), .inr (1, [.ref (u6 10), .ref (u6 11)])), ((u6 10), .inl (G.2.2.1, 24, .inl res.1)), ((u6 11), .inl (G.2.2.1, 24, .inl res.2)), ((u6 12), .inl (G.2.2.1, 12, .inl (fun _ => 0))), ((u6 13), .inl (G.2.2.1, 12, .inl (fun _ => 0))), ((u6 14), .inl (G.2.2.1, 12, .inl (fun _ => 0))), ((u6 15), .inr (3, [.ref (u6 16), .ref (u6 19), .ref (u6 20), .ref (u6 21), .int 0, .int 0, .int 0, .int 0, .int 0])), ((u6 16), .inr (1, [.ref (u6 17), .ref (u6 18)])), ((u6 17), .inl (G.2.2.1, 24, .inl res.1)), ((u6 18), .inl (G.2.2.1, 24, .inl res.2)), ((u6 19), .inl (G.2.2.1, 12, .inl (fun _ => 0))), ((u6 20), .inl (G.2.2.1, 12, .inl (fun _ => 0))), ((u6 21), .inl (G.2.2.1, 12, .inl (fun _ => 0))), ((u6 22), .inr (3, [.ref (u6 23), .ref (u6 26), .ref (u6 27), .ref (u6 28), .int 0, .int 0, .int 0, .int 0, .int 0])), ((u6 23), .inr (1, [.ref (u6 24), .ref (u6 25)])), ((u6 24), .inl (G.2.2.1, 24, .inl res.1)), ((u6 25), .inl (G.2.2.1, 24, .inl res.2)), ((u6 26), .inl (G.2.2.1, 12, .inl (fun _ => 0))), ((u6 27), .inl (G.2.2.1, 12, .inl (fun _ => 0))), ((u6 28), .inl (G.2.2.1, 12, .inl (fun _ => 0))), (ad7, .inr (2, [.ref (u8 0), .int 0, .ref (u8 1), .int 0, .int 0, .int 0, .int 0, .int 0, .int 0, .int 0])), ((u8 0), .inl (G.2.1, 80, .inl (fun _ => 0))), ((u8 1), .inl (G.2.2.1, 24, .inl (fun _ => 0)))] H := hP
  have hD : va_D A [(oqa, .inr (4, [.ref ad1, .ref ad3, .int 0, .ref ad5, .null])), (ad1, .inr (3, [.ref (u2 0), .ref (u2 3), .ref (u2 4), .ref (u2 5), .int 0, .int 0, .int 0, .int 0, .int 0])), ((u2 0), .inr (1, [.ref (u2 1), .ref (u2 2)])), ((u2 1), .inl (G.2.2.1, 24, .inl res.1)), ((u2 2), .inl (G.2.2.1, 24, .inl res.2)), ((u2 3), .inl (G.2.2.1, 12, .inl (fun _ => 0))), ((u2 4), .inl (G.2.2.1, 12, .inl (fun _ => 0))), ((u2 5), .inl (G.2.2.1, 12, .inl (fun _ => 0))), (ad3, .inr (3, [.ref (u4 0), .ref (u4 3), .ref (u4 4), .ref (u4 5), .int 0, .int 0, .int 0, .int 0, .int 0])), ((u4 0), .inr (1, [.ref (u4 1), .ref (u4 2)])), ((u4 1), .inl (G.2.2.1, 24, .inl res.1)), ((u4 2), .inl (G.2.2.1, 24, .inl res.2)), ((u4 3), .inl (G.2.2.1, 12, .inl (fun _ => 0))), ((u4 4), .inl (G.2.2.1, 12, .inl (fun _ => 0))), ((u4 5), .inl (G.2.2.1, 12, .inl (fun _ => 0))), (ad5, .inr (0, [.ref (u6 0), .int 0, .int 0])), ((u6 0), .inl (G.2.2.2, 4, .inr (.inr (.inr (.inr (va_up (va_up (va_up (va_up (fun _ => none) (Int32.toNatClampNeg 0) (some (u6 1))) (Int32.toNatClampNeg 1) (some (u6 8))) (Int32.toNatClampNeg 2) (some (u6 15))) (Int32.toNatClampNeg 3) (some (u6 22)))))))), ((u6 1), .inr (3, [.ref (u6 2), .ref (u6 5), .ref (u6 6), .ref (u6 7), .int 0, .int 0, .int 0, .int 0, .int 0])), ((u6 2), .inr (1, [.ref (u6 3), .ref (u6 4)])), ((u6 3), .inl (G.2.2.1, 24, .inl res.1)), ((u6 4), .inl (G.2.2.1, 24, .inl res.2)), ((u6 5), .inl (G.2.2.1, 12, .inl (fun _ => 0))), ((u6 6), .inl (G.2.2.1, 12, .inl (fun _ => 0))), ((u6 7), .inl (G.2.2.1, 12, .inl (fun _ => 0))), ((u6 8), .inr (3, [.ref (u6 9), .ref (u6 12), .ref (u6 13), .ref (u6 14), .int 0, .int 0, .int 0, .int 0, .int 0])), ((u6 9), .inr (1, [.ref (u6 10), .ref (u6 11)])), ((u6 10), .inl (G.2.2.1, 24, .inl res.1)), ((u6 11), .inl (G.2.2.1, 24, .inl res.2)), ((u6 12), .inl (G.2.2.1, 12, .inl (fun _ => 0))), ((u6 13), .inl (G.2.2.1, 12, .inl (fun _ => 0))), ((u6 14), .inl (G.2.2.1, 12, .inl (fun _ => 0))), ((u6 15), .inr (3, [.ref (u6 16), .ref (u6 19), .ref (u6 20), .ref (u6 21), .int 0, .int 0, .int 0, .int 0, .int 0])), ((u6 16), .inr (1, [.ref (u6 17), .ref (u6 18)])), ((u6 17), .inl (G.2.2.1, 24, .inl res.1)), ((u6 18), .inl (G.2.2.1, 24, .inl res.2)), ((u6 19), .inl (G.2.2.1, 12, .inl (fun _ => 0))), ((u6 20), .inl (G.2.2.1, 12, .inl (fun _ => 0))), ((u6 21), .inl (G.2.2.1, 12, .inl (fun _ => 0))), ((u6 22), .inr (3, [.ref (u6 23), .ref (u6 26), .ref (u6 27), .ref (u6 28), .int 0, .int 0, .int 0, .int 0, .int 0])), ((u6 23), .inr (1, [.ref (u6 24), .ref (u6 25)])), ((u6 24), .inl (G.2.2.1, 24, .inl res.1)), ((u6 25), .inl (G.2.2.1, 24, .inl res.2)), ((u6 26), .inl (G.2.2.1, 12, .inl (fun _ => 0))), ((u6 27), .inl (G.2.2.1, 12, .inl (fun _ => 0))), ((u6 28), .inl (G.2.2.1, 12, .inl (fun _ => 0))), (ad7, .inr (2, [.ref (u8 0), .int 0, .ref (u8 1), .int 0, .int 0, .int 0, .int 0, .int 0, .int 0, .int 0])), ((u8 0), .inl (G.2.1, 80, .inl (fun _ => 0))), ((u8 1), .inl (G.2.2.1, 24, .inl (fun _ => 0)))] := hD
  refine W.widen (k := 47) (n := 691) (Nat.le_of_ble_eq_true rfl) (Nat.le_of_ble_eq_true rfl) ?_
  refine pfF S hK hin iX4 tyX4 tyX4_ok nmX4 hP hD hS 0 rfl rfl 4 (by decide) q169 rfl rfl rfl rfl (Nat.le_of_ble_eq_true rfl) [(oqa, .inr (4, [.ref ad1, .ref ad3, .int 0, .ref ad5, .ref ad7])), (ad1, .inr (3, [.ref (u2 0), .ref (u2 3), .ref (u2 4), .ref (u2 5), .int 0, .int 0, .int 0, .int 0, .int 0])), ((u2 0), .inr (1, [.ref (u2 1), .ref (u2 2)])), ((u2 1), .inl (G.2.2.1, 24, .inl res.1)), ((u2 2), .inl (G.2.2.1, 24, .inl res.2)), ((u2 3), .inl (G.2.2.1, 12, .inl (fun _ => 0))), ((u2 4), .inl (G.2.2.1, 12, .inl (fun _ => 0))), ((u2 5), .inl (G.2.2.1, 12, .inl (fun _ => 0))), (ad3, .inr (3, [.ref (u4 0), .ref (u4 3), .ref (u4 4), .ref (u4 5), .int 0, .int 0, .int 0, .int 0, .int 0])), ((u4 0), .inr (1, [.ref (u4 1), .ref (u4 2)])), ((u4 1), .inl (G.2.2.1, 24, .inl res.1)), ((u4 2), .inl (G.2.2.1, 24, .inl res.2)), ((u4 3), .inl (G.2.2.1, 12, .inl (fun _ => 0))), ((u4 4), .inl (G.2.2.1, 12, .inl (fun _ => 0))), ((u4 5), .inl (G.2.2.1, 12, .inl (fun _ => 0))), (ad5, .inr (0, [.ref (u6 0), .int 0, .int 0])), ((u6 0), .inl (G.2.2.2, 4, .inr (.inr (.inr (.inr (va_up (va_up (va_up (va_up (fun _ => none) (Int32.toNatClampNeg 0) (some (u6 1))) (Int32.toNatClampNeg 1) (some (u6 8))) (Int32.toNatClampNeg 2) (some (u6 15))) (Int32.toNatClampNeg 3) (some (u6 22)))))))), ((u6 1), .inr (3, [.ref (u6 2), .ref (u6 5), .ref (u6 6), .ref (u6 7), .int 0, .int 0, .int 0, .int 0, .int 0])), ((u6 2), .inr (1, [.ref (u6 3), .ref (u6 4)])), ((u6 3), .inl (G.2.2.1, 24, .inl res.1)), ((u6 4), .inl (G.2.2.1, 24, .inl res.2)), ((u6 5), .inl (G.2.2.1, 12, .inl (fun _ => 0))), ((u6 6), .inl (G.2.2.1, 12, .inl (fun _ => 0))), ((u6 7), .inl (G.2.2.1, 12, .inl (fun _ => 0))), ((u6 8), .inr (3, [.ref (u6 9), .ref (u6 12), .ref (u6 13), .ref (u6 14), .int 0, .int 0, .int 0, .int 0, .int 0])), ((u6 9), .inr (1, [.ref (u6 10), .ref (u6 11)])), ((u6 10), .inl (G.2.2.1, 24, .inl res.1)), ((u6 11), .inl (G.2.2.1, 24, .inl res.2)), ((u6 12), .inl (G.2.2.1, 12, .inl (fun _ => 0))), ((u6 13), .inl (G.2.2.1, 12, .inl (fun _ => 0))), ((u6 14), .inl (G.2.2.1, 12, .inl (fun _ => 0))), ((u6 15), .inr (3, [.ref (u6 16), .ref (u6 19), .ref (u6 20), .ref (u6 21), .int 0, .int 0, .int 0, .int 0, .int 0])), ((u6 16), .inr (1, [.ref (u6 17), .ref (u6 18)])), ((u6 17), .inl (G.2.2.1, 24, .inl res.1)), ((u6 18), .inl (G.2.2.1, 24, .inl res.2)), ((u6 19), .inl (G.2.2.1, 12, .inl (fun _ => 0))), ((u6 20), .inl (G.2.2.1, 12, .inl (fun _ => 0))), ((u6 21), .inl (G.2.2.1, 12, .inl (fun _ => 0))), ((u6 22), .inr (3, [.ref (u6 23), .ref (u6 26), .ref (u6 27), .ref (u6 28), .int 0, .int 0, .int 0, .int 0, .int 0])), ((u6 23), .inr (1, [.ref (u6 24), .ref (u6 25)])), ((u6 24), .inl (G.2.2.1, 24, .inl res.1)), ((u6 25), .inl (G.2.2.1, 24, .inl res.2)), ((u6 26), .inl (G.2.2.1, 12, .inl (fun _ => 0))), ((u6 27), .inl (G.2.2.1, 12, .inl (fun _ => 0))), ((u6 28), .inl (G.2.2.1, 12, .inl (fun _ => 0))), (ad7, .inr (2, [.ref (u8 0), .int 0, .ref (u8 1), .int 0, .int 0, .int 0, .int 0, .int 0, .int 0, .int 0])), ((u8 0), .inl (G.2.1, 80, .inl (fun _ => 0))), ((u8 1), .inl (G.2.2.1, 24, .inl (fun _ => 0)))] rfl dX4_init_50 (fun H locs hP hD hS => ?_)
  exact retC S hr hlk (adr [ad1, u2 0, u2 1, u2 2, u2 3, u2 4, u2 5, ad3, u4 0, u4 1, u4 2, u4 3, u4 4, u4 5, ad5, u6 0, u6 1, u6 2, u6 3, u6 4, u6 5, u6 6, u6 7, u6 8, u6 9, u6 10, u6 11, u6 12, u6 13, u6 14, u6 15, u6 16, u6 17, u6 18, u6 19, u6 20, u6 21, u6 22, u6 23, u6 24, u6 25, u6 26, u6 27, u6 28, ad7, u8 0, u8 1]) (Nat.le_refl _) (Nat.le_refl _) hP hD hS dX4_init_53
def w_X5_init (G : gG) (b : Nat) (res : Nat → Int32) : (Nat → Nat) → va_W := fun u => [(b, .inr (5, [.ref (u 0), .ref (u 1), .int 0, .ref (u 2), .int 0, .ref (u 3), .int 0, .ref (u 4), .int 0, .int 0, .int 0, .int 0, .int 0, .int 0])), ((u 0), .inl (G.2.2.1, 65, .inl res)), ((u 1), .inl (G.2.2.1, 260, .inl (fun _ => 0))), ((u 2), .inl (G.2.2.1, 65, .inl (fun _ => 0))), ((u 3), .inl (G.2.1, 80, .inl (fun _ => 0))), ((u 4), .inl (G.2.2.1, 24, .inl (fun _ => 0)))]
set_option maxHeartbeats 4000000 in
set_option maxRecDepth 100000 in
theorem c_X5_init (l : Launch) (G : gG) (mqa sz : Nat) (res : Nat → Int32) (h : F_X5_init = some res) : CtM l G yX5_init cX5_init 2 (rmc 1 12 5 494) [(mqa, .inr (5, [.null, .null, .int 0, .null, .int 0, .null, .int 0, .null, .int 0, .int 0, .int 0, .int 0, .int 0, .int 0]))] sz [.ref mqa] (w_X5_init G mqa res) 5 494 := by
  refine ofCt (by decide) (Nat.le_of_ble_eq_true rfl) ?_
  intro p e s m below meth c ls A S hr hlk hin hK hP hD hS hA hl
  have S : CallFix p m c cX5_init 2 s ([.ref mqa] : List Value).toArray T0 RX5 := S
  have hin : meth.name = "<init>" := hin
  obtain ⟨hx, hb, hml, hown, hts⟩ := id S
  have hl : lv_has ls 2 [(0, .ref mqa)] := hl
  refine lv_aload_n hx hb dX5_init_0 rfl (lv_at hl 0 rfl) ?_
  refine obI S q635 q57 q58 hl.1 dX5_init_1 (Nat.le_of_ble_eq_true rfl) (Nat.le_of_ble_eq_true rfl) ?_
  refine lv_aload_n hx hb dX5_init_4 rfl (lv_at hl 0 rfl) ?_
  refine lv_bipush (v := 65) hx hb dX5_init_5 (by decide) ?_
  refine nwI S hK hP hD hS hA q78 (by decide) (N' := 65) (by decide) (by decide) (Nat.le_of_ble_eq_true rfl) (Nat.le_of_ble_eq_true rfl) dX5_init_7 (fun ad1 H hP hD hS => ?_)
  have hP : va_P G.1 vwCl [(mqa, .inr (5, [.null, .null, .int 0, .null, .int 0, .null, .int 0, .null, .int 0, .int 0, .int 0, .int 0, .int 0, .int 0])), (ad1, .inl (G.2.2.1, 65, .inl (fun _ => 0)))] H := hP
  have hD : va_D A [(mqa, .inr (5, [.null, .null, .int 0, .null, .int 0, .null, .int 0, .null, .int 0, .int 0, .int 0, .int 0, .int 0, .int 0])), (ad1, .inl (G.2.2.1, 65, .inl (fun _ => 0)))] := hD
  refine W.widen (k := 1) (n := 65) (Nat.le_of_ble_eq_true rfl) (Nat.le_of_ble_eq_true rfl) ?_
  refine pfF S hK hin iX5 tyX5 tyX5_ok nmX5 hP hD hS 0 rfl rfl 0 (by decide) q636 rfl rfl rfl rfl (Nat.le_of_ble_eq_true rfl) [(mqa, .inr (5, [.ref ad1, .null, .int 0, .null, .int 0, .null, .int 0, .null, .int 0, .int 0, .int 0, .int 0, .int 0, .int 0])), (ad1, .inl (G.2.2.1, 65, .inl (fun _ => 0)))] rfl dX5_init_9 (fun H locs hP hD hS => ?_)
  refine lv_aload_n hx hb dX5_init_12 rfl (lv_at hl 0 rfl) ?_
  refine lv_sipush (v := 260) hx hb dX5_init_13 (by decide) ?_
  refine nwI S hK hP hD hS hA q78 (by decide) (N' := 260) (by decide) (by decide) (Nat.le_of_ble_eq_true rfl) (Nat.le_of_ble_eq_true rfl) dX5_init_16 (fun ad2 H hP hD hS => ?_)
  have hP : va_P G.1 vwCl [(mqa, .inr (5, [.ref ad1, .null, .int 0, .null, .int 0, .null, .int 0, .null, .int 0, .int 0, .int 0, .int 0, .int 0, .int 0])), (ad1, .inl (G.2.2.1, 65, .inl (fun _ => 0))), (ad2, .inl (G.2.2.1, 260, .inl (fun _ => 0)))] H := hP
  have hD : va_D A [(mqa, .inr (5, [.ref ad1, .null, .int 0, .null, .int 0, .null, .int 0, .null, .int 0, .int 0, .int 0, .int 0, .int 0, .int 0])), (ad1, .inl (G.2.2.1, 65, .inl (fun _ => 0))), (ad2, .inl (G.2.2.1, 260, .inl (fun _ => 0)))] := hD
  refine W.widen (k := 2) (n := 325) (Nat.le_of_ble_eq_true rfl) (Nat.le_of_ble_eq_true rfl) ?_
  refine pfF S hK hin iX5 tyX5 tyX5_ok nmX5 hP hD hS 0 rfl rfl 1 (by decide) q637 rfl rfl rfl rfl (Nat.le_of_ble_eq_true rfl) [(mqa, .inr (5, [.ref ad1, .ref ad2, .int 0, .null, .int 0, .null, .int 0, .null, .int 0, .int 0, .int 0, .int 0, .int 0, .int 0])), (ad1, .inl (G.2.2.1, 65, .inl (fun _ => 0))), (ad2, .inl (G.2.2.1, 260, .inl (fun _ => 0)))] rfl dX5_init_18 (fun H locs hP hD hS => ?_)
  refine lv_aload_n hx hb dX5_init_21 rfl (lv_at hl 0 rfl) ?_
  refine lv_bipush (v := 65) hx hb dX5_init_22 (by decide) ?_
  refine nwI S hK hP hD hS hA q78 (by decide) (N' := 65) (by decide) (by decide) (Nat.le_of_ble_eq_true rfl) (Nat.le_of_ble_eq_true rfl) dX5_init_24 (fun ad3 H hP hD hS => ?_)
  have hP : va_P G.1 vwCl [(mqa, .inr (5, [.ref ad1, .ref ad2, .int 0, .null, .int 0, .null, .int 0, .null, .int 0, .int 0, .int 0, .int 0, .int 0, .int 0])), (ad1, .inl (G.2.2.1, 65, .inl (fun _ => 0))), (ad2, .inl (G.2.2.1, 260, .inl (fun _ => 0))), (ad3, .inl (G.2.2.1, 65, .inl (fun _ => 0)))] H := hP
  have hD : va_D A [(mqa, .inr (5, [.ref ad1, .ref ad2, .int 0, .null, .int 0, .null, .int 0, .null, .int 0, .int 0, .int 0, .int 0, .int 0, .int 0])), (ad1, .inl (G.2.2.1, 65, .inl (fun _ => 0))), (ad2, .inl (G.2.2.1, 260, .inl (fun _ => 0))), (ad3, .inl (G.2.2.1, 65, .inl (fun _ => 0)))] := hD
  refine W.widen (k := 3) (n := 390) (Nat.le_of_ble_eq_true rfl) (Nat.le_of_ble_eq_true rfl) ?_
  refine pfF S hK hin iX5 tyX5 tyX5_ok nmX5 hP hD hS 0 rfl rfl 3 (by decide) q639 rfl rfl rfl rfl (Nat.le_of_ble_eq_true rfl) [(mqa, .inr (5, [.ref ad1, .ref ad2, .int 0, .ref ad3, .int 0, .null, .int 0, .null, .int 0, .int 0, .int 0, .int 0, .int 0, .int 0])), (ad1, .inl (G.2.2.1, 65, .inl (fun _ => 0))), (ad2, .inl (G.2.2.1, 260, .inl (fun _ => 0))), (ad3, .inl (G.2.2.1, 65, .inl (fun _ => 0)))] rfl dX5_init_26 (fun H locs hP hD hS => ?_)
  refine lv_aload_n hx hb dX5_init_29 rfl (lv_at hl 0 rfl) ?_
  refine lv_bipush (v := 80) hx hb dX5_init_30 (by decide) ?_
  refine nwC S hK hP hD hS hA q164 (by decide) (N' := 80) (by decide) (by decide) (Nat.le_of_ble_eq_true rfl) (Nat.le_of_ble_eq_true rfl) dX5_init_32 (fun ad4 H hP hD hS => ?_)
  have hP : va_P G.1 vwCl [(mqa, .inr (5, [.ref ad1, .ref ad2, .int 0, .ref ad3, .int 0, .null, .int 0, .null, .int 0, .int 0, .int 0, .int 0, .int 0, .int 0])), (ad1, .inl (G.2.2.1, 65, .inl (fun _ => 0))), (ad2, .inl (G.2.2.1, 260, .inl (fun _ => 0))), (ad3, .inl (G.2.2.1, 65, .inl (fun _ => 0))), (ad4, .inl (G.2.1, 80, .inl (fun _ => 0)))] H := hP
  have hD : va_D A [(mqa, .inr (5, [.ref ad1, .ref ad2, .int 0, .ref ad3, .int 0, .null, .int 0, .null, .int 0, .int 0, .int 0, .int 0, .int 0, .int 0])), (ad1, .inl (G.2.2.1, 65, .inl (fun _ => 0))), (ad2, .inl (G.2.2.1, 260, .inl (fun _ => 0))), (ad3, .inl (G.2.2.1, 65, .inl (fun _ => 0))), (ad4, .inl (G.2.1, 80, .inl (fun _ => 0)))] := hD
  refine W.widen (k := 4) (n := 470) (Nat.le_of_ble_eq_true rfl) (Nat.le_of_ble_eq_true rfl) ?_
  refine pfF S hK hin iX5 tyX5 tyX5_ok nmX5 hP hD hS 0 rfl rfl 5 (by decide) q641 rfl rfl rfl rfl (Nat.le_of_ble_eq_true rfl) [(mqa, .inr (5, [.ref ad1, .ref ad2, .int 0, .ref ad3, .int 0, .ref ad4, .int 0, .null, .int 0, .int 0, .int 0, .int 0, .int 0, .int 0])), (ad1, .inl (G.2.2.1, 65, .inl (fun _ => 0))), (ad2, .inl (G.2.2.1, 260, .inl (fun _ => 0))), (ad3, .inl (G.2.2.1, 65, .inl (fun _ => 0))), (ad4, .inl (G.2.1, 80, .inl (fun _ => 0)))] rfl dX5_init_34 (fun H locs hP hD hS => ?_)
  refine lv_aload_n hx hb dX5_init_37 rfl (lv_at hl 0 rfl) ?_
  refine lv_bipush (v := 24) hx hb dX5_init_38 (by decide) ?_
  refine nwI S hK hP hD hS hA q78 (by decide) (N' := 24) (by decide) (by decide) (Nat.le_of_ble_eq_true rfl) (Nat.le_of_ble_eq_true rfl) dX5_init_40 (fun ad5 H hP hD hS => ?_)
  have hP : va_P G.1 vwCl [(mqa, .inr (5, [.ref ad1, .ref ad2, .int 0, .ref ad3, .int 0, .ref ad4, .int 0, .null, .int 0, .int 0, .int 0, .int 0, .int 0, .int 0])), (ad1, .inl (G.2.2.1, 65, .inl (fun _ => 0))), (ad2, .inl (G.2.2.1, 260, .inl (fun _ => 0))), (ad3, .inl (G.2.2.1, 65, .inl (fun _ => 0))), (ad4, .inl (G.2.1, 80, .inl (fun _ => 0))), (ad5, .inl (G.2.2.1, 24, .inl (fun _ => 0)))] H := hP
  have hD : va_D A [(mqa, .inr (5, [.ref ad1, .ref ad2, .int 0, .ref ad3, .int 0, .ref ad4, .int 0, .null, .int 0, .int 0, .int 0, .int 0, .int 0, .int 0])), (ad1, .inl (G.2.2.1, 65, .inl (fun _ => 0))), (ad2, .inl (G.2.2.1, 260, .inl (fun _ => 0))), (ad3, .inl (G.2.2.1, 65, .inl (fun _ => 0))), (ad4, .inl (G.2.1, 80, .inl (fun _ => 0))), (ad5, .inl (G.2.2.1, 24, .inl (fun _ => 0)))] := hD
  refine W.widen (k := 5) (n := 494) (Nat.le_of_ble_eq_true rfl) (Nat.le_of_ble_eq_true rfl) ?_
  refine pfF S hK hin iX5 tyX5 tyX5_ok nmX5 hP hD hS 0 rfl rfl 7 (by decide) q643 rfl rfl rfl rfl (Nat.le_of_ble_eq_true rfl) [(mqa, .inr (5, [.ref ad1, .ref ad2, .int 0, .ref ad3, .int 0, .ref ad4, .int 0, .ref ad5, .int 0, .int 0, .int 0, .int 0, .int 0, .int 0])), (ad1, .inl (G.2.2.1, 65, .inl (fun _ => 0))), (ad2, .inl (G.2.2.1, 260, .inl (fun _ => 0))), (ad3, .inl (G.2.2.1, 65, .inl (fun _ => 0))), (ad4, .inl (G.2.1, 80, .inl (fun _ => 0))), (ad5, .inl (G.2.2.1, 24, .inl (fun _ => 0)))] rfl dX5_init_42 (fun H locs hP hD hS => ?_)
  refine lv_iconst (v := 0) hx hb dX5_init_45 (by decide) ?_
  refine lv_istore_n (lv' := [(1, .int 0), (0, .ref mqa)]) hx hb dX5_init_46 rfl hl (by decide) rfl (fun ls hl => ?_)
  have L47 : ∀ (n : Nat) (x1 : Int32) (fs : Nat → Int32), F_X5_init_47 n x1 fs = some res → ∀ (H : Heap) (locs : List Loc), va_P G.1 vwCl [(mqa, .inr (5, [.ref ad1, .ref ad2, .int 0, .ref ad3, .int 0, .ref ad4, .int 0, .ref ad5, .int 0, .int 0, .int 0, .int 0, .int 0, .int 0])), (ad1, .inl (G.2.2.1, 65, .inl fs)), (ad2, .inl (G.2.2.1, 260, .inl (fun _ => 0))), (ad3, .inl (G.2.2.1, 65, .inl (fun _ => 0))), (ad4, .inl (G.2.1, 80, .inl (fun _ => 0))), (ad5, .inl (G.2.2.1, 24, .inl (fun _ => 0)))] H → va_D A [(mqa, .inr (5, [.ref ad1, .ref ad2, .int 0, .ref ad3, .int 0, .ref ad4, .int 0, .ref ad5, .int 0, .int 0, .int 0, .int 0, .int 0, .int 0])), (ad1, .inl (G.2.2.1, 65, .inl fs)), (ad2, .inl (G.2.2.1, 260, .inl (fun _ => 0))), (ad3, .inl (G.2.2.1, 65, .inl (fun _ => 0))), (ad4, .inl (G.2.1, 80, .inl (fun _ => 0))), (ad5, .inl (G.2.2.1, 24, .inl (fun _ => 0)))] → va_S A s.heap H locs → ∀ (ls : Array Slot), lv_has ls 2 [(0, .ref mqa), (1, .int x1)] → W p l e (rmc 1 12 5 494) s m ([.ref mqa] : List Value).toArray below meth c H locs 5 494 (MQ below (gQc G (w_X5_init G mqa res) A) ([.ref mqa] : List Value).toArray s 5 494 A) (F0 m 47 ls []) := by
    intro n
    induction n with
    | zero => intro x1 fs h; exact absurd (show (none : Option ((Nat → Int32))) = some res from h) (fun q => by cases q)
    | succ n ih =>
      intro x1 fs h H locs hP hD hS ls hl
      rw [F_X5_init_47] at h
      refine lv_iload_n hx hb dX5_init_47 rfl (lv_at hl 1 rfl) ?_
      refine lv_bipush (v := 24) hx hb dX5_init_48 (by decide) ?_
      refine lv_icmp_ge (tgt := 73) hx hb dX5_init_50 (by decide) (fun c1 => ?_) (fun c1 => ?_)
      · replace h := if_t c1 h
        obtain rfl := Option.some.inj h
        exact retC S hr hlk (adr [ad1, ad2, ad3, ad4, ad5]) (Nat.le_refl _) (Nat.le_refl _) hP hD hS dX5_init_73
      · replace h := if_f c1 h
        refine lv_aload_n hx hb dX5_init_53 rfl (lv_at hl 0 rfl) ?_
        refine gf S hK iX5 hP 0 rfl rfl 0 (by decide) q636 rfl dX5_init_54 ?_
        refine lv_iconst (v := 0) hx hb dX5_init_57 (by decide) ?_
        refine lv_iload_n hx hb dX5_init_58 rfl (lv_at hl 1 rfl) ?_
        refine lv_iadd hx hb dX5_init_59 ?_
        refine lv_iload_n hx hb dX5_init_60 rfl (lv_at hl 1 rfl) ?_
        refine lv_iconst (v := 1) hx hb dX5_init_61 (by decide) ?_
        refine lv_iadd hx hb dX5_init_62 ?_
        refine lv_bipush (v := 24) hx hb dX5_init_63 (by decide) ?_
        refine lv_irem hx hb dX5_init_65 (by decide) ?_
        obtain ⟨k2, h⟩ := ck_t h
        refine ast S hK hP hD hS 1 rfl (ok_vp k2) [(mqa, .inr (5, [.ref ad1, .ref ad2, .int 0, .ref ad3, .int 0, .ref ad4, .int 0, .ref ad5, .int 0, .int 0, .int 0, .int 0, .int 0, .int 0])), (ad1, .inl (G.2.2.1, 65, .inl (upd fs (Int32.toNatClampNeg ((0 : Int32) + x1)) ((x1 + 1) - (x1 + 1) / 24 * 24)))), (ad2, .inl (G.2.2.1, 260, .inl (fun _ => 0))), (ad3, .inl (G.2.2.1, 65, .inl (fun _ => 0))), (ad4, .inl (G.2.1, 80, .inl (fun _ => 0))), (ad5, .inl (G.2.2.1, 24, .inl (fun _ => 0)))] rfl dX5_init_66 (fun H locs hP hD hS => ?_)
        refine lv_iinc (v := x1 + 1) (lv' := [(1, .int (x1 + 1)), (0, .ref mqa)]) hx hb dX5_init_67 hl (k := 1) rfl rfl (by decide) rfl (fun ls hl => ?_)
        refine lv_goto (tgt := 47) hx hb dX5_init_70 (by decide) ?_
        exact ih (x1 + 1) (upd fs (Int32.toNatClampNeg ((0 : Int32) + x1)) ((x1 + 1) - (x1 + 1) / 24 * 24)) h _ _ hP hD hS ls (lv_sub hl [1, 0] rfl)
  rw [F_X5_init] at h
  exact L47 10000 0 (fun _ => 0) h _ _ hP hD hS ls (lv_sub hl [1, 0] rfl)
end
section
theorem i_vc : Claimed_1_1 ∧ Claimed_1_2 := sorry
end
