section
-- ===== PART A: goes FIRST, ahead of the names: the tables' words, and 'selects' of the private methods out of them =====
/-- a private method of a class that the tables say can be made, by its rows of tables_1 -/
def lw_okq (q : MethodName × Nat) : Prop := (q.1.cls ≠ "java/lang/invoke/MethodHandle" ∧ q.1.cls ≠ "java/lang/invoke/VarHandle") ∧ Cond.instantiable q.1.cls q.2 ∈ tables_1 ∧ Cond.privateMethod q.1 ∈ tables_1 ∧ Cond.instanceMethod q.1 ∈ tables_1
theorem lw_p0 : lw_okq (⟨"TicketWeaver", "hasEachMailOnce", "()Z"⟩, 15) := ⟨⟨by decide +kernel, by decide +kernel⟩, List.mem_of_getElem? (i := 36) (by decide +kernel), List.mem_of_getElem? (i := 178) (by decide +kernel), List.mem_of_getElem? (i := 179) (by decide +kernel)⟩
theorem lw_p1 : lw_okq (⟨"TicketWeaver", "agreesOnNextTickets", "()Z"⟩, 15) := ⟨⟨by decide +kernel, by decide +kernel⟩, List.mem_of_getElem? (i := 36) (by decide +kernel), List.mem_of_getElem? (i := 204) (by decide +kernel), List.mem_of_getElem? (i := 205) (by decide +kernel)⟩
theorem lw_p2 : lw_okq (⟨"TicketWeaver", "nextFromQueues", "(LTicketWeaver$Agent;)LTicketWeaver$Ticket;"⟩, 15) := ⟨⟨by decide +kernel, by decide +kernel⟩, List.mem_of_getElem? (i := 36) (by decide +kernel), List.mem_of_getElem? (i := 209) (by decide +kernel), List.mem_of_getElem? (i := 210) (by decide +kernel)⟩
theorem lw_p3 : lw_okq (⟨"TicketWeaver", "nextFromTickets", "(LTicketWeaver$Agent;)LTicketWeaver$Ticket;"⟩, 15) := ⟨⟨by decide +kernel, by decide +kernel⟩, List.mem_of_getElem? (i := 36) (by decide +kernel), List.mem_of_getElem? (i := 242) (by decide +kernel), List.mem_of_getElem? (i := 243) (by decide +kernel)⟩
theorem lw_p4 : lw_okq (⟨"java/lang/Throwable", "fillInStackTrace", "(I)Ljava/lang/Throwable;"⟩, 6) := ⟨⟨by decide +kernel, by decide +kernel⟩, List.mem_of_getElem? (i := 303) (by decide +kernel), List.mem_of_getElem? (i := 301) (by decide +kernel), List.mem_of_getElem? (i := 302) (by decide +kernel)⟩
theorem lw_p5 : lw_okq (⟨"TicketWeaver", "orderQueuesAnew", "()V"⟩, 15) := ⟨⟨by decide +kernel, by decide +kernel⟩, List.mem_of_getElem? (i := 36) (by decide +kernel), List.mem_of_getElem? (i := 345) (by decide +kernel), List.mem_of_getElem? (i := 346) (by decide +kernel)⟩
theorem lw_p6 : lw_okq (⟨"java/util/ArrayList", "fastRemove", "([Ljava/lang/Object;I)V"⟩, 3) := ⟨⟨by decide +kernel, by decide +kernel⟩, List.mem_of_getElem? (i := 68) (by decide +kernel), List.mem_of_getElem? (i := 358) (by decide +kernel), List.mem_of_getElem? (i := 359) (by decide +kernel)⟩
theorem lw_p7 : lw_okq (⟨"TicketWeaver$TopicQueue", "insertBelow", "(ILTicketWeaver$Ticket;)V"⟩, 1) := ⟨⟨by decide +kernel, by decide +kernel⟩, List.mem_of_getElem? (i := 62) (by decide +kernel), List.mem_of_getElem? (i := 365) (by decide +kernel), List.mem_of_getElem? (i := 366) (by decide +kernel)⟩
theorem lw_p8 : lw_okq (⟨"java/util/ArrayList", "rangeCheckForAdd", "(I)V"⟩, 3) := ⟨⟨by decide +kernel, by decide +kernel⟩, List.mem_of_getElem? (i := 68) (by decide +kernel), List.mem_of_getElem? (i := 374) (by decide +kernel), List.mem_of_getElem? (i := 375) (by decide +kernel)⟩
theorem lw_p9 : lw_okq (⟨"java/util/ArrayList", "outOfBoundsMsg", "(I)Ljava/lang/String;"⟩, 3) := ⟨⟨by decide +kernel, by decide +kernel⟩, List.mem_of_getElem? (i := 68) (by decide +kernel), List.mem_of_getElem? (i := 387) (by decide +kernel), List.mem_of_getElem? (i := 388) (by decide +kernel)⟩
theorem lw_p10 : lw_okq (⟨"java/util/ArrayList", "grow", "()[Ljava/lang/Object;"⟩, 3) := ⟨⟨by decide +kernel, by decide +kernel⟩, List.mem_of_getElem? (i := 68) (by decide +kernel), List.mem_of_getElem? (i := 641) (by decide +kernel), List.mem_of_getElem? (i := 642) (by decide +kernel)⟩
theorem lw_p11 : lw_okq (⟨"java/util/ArrayList", "grow", "(I)[Ljava/lang/Object;"⟩, 3) := ⟨⟨by decide +kernel, by decide +kernel⟩, List.mem_of_getElem? (i := 68) (by decide +kernel), List.mem_of_getElem? (i := 645) (by decide +kernel), List.mem_of_getElem? (i := 646) (by decide +kernel)⟩
theorem lw_p12 : lw_okq (⟨"TicketWeaver", "ticketToJoin", "(LTicketWeaver$Customer;II)LTicketWeaver$Ticket;"⟩, 15) := ⟨⟨by decide +kernel, by decide +kernel⟩, List.mem_of_getElem? (i := 36) (by decide +kernel), List.mem_of_getElem? (i := 723) (by decide +kernel), List.mem_of_getElem? (i := 724) (by decide +kernel)⟩
theorem lw_p13 : lw_okq (⟨"TicketWeaver", "latestWithSubject", "(LTicketWeaver$Customer;I)LTicketWeaver$Ticket;"⟩, 15) := ⟨⟨by decide +kernel, by decide +kernel⟩, List.mem_of_getElem? (i := 36) (by decide +kernel), List.mem_of_getElem? (i := 732) (by decide +kernel), List.mem_of_getElem? (i := 733) (by decide +kernel)⟩
theorem lw_p14 : lw_okq (⟨"java/util/ArrayList", "add", "(Ljava/lang/Object;[Ljava/lang/Object;I)V"⟩, 3) := ⟨⟨by decide +kernel, by decide +kernel⟩, List.mem_of_getElem? (i := 68) (by decide +kernel), List.mem_of_getElem? (i := 824) (by decide +kernel), List.mem_of_getElem? (i := 825) (by decide +kernel)⟩
theorem lw_p15 : lw_okq (⟨"TicketWeaver", "leaveQueue", "(LTicketWeaver$Ticket;)V"⟩, 15) := ⟨⟨by decide +kernel, by decide +kernel⟩, List.mem_of_getElem? (i := 36) (by decide +kernel), List.mem_of_getElem? (i := 828) (by decide +kernel), List.mem_of_getElem? (i := 829) (by decide +kernel)⟩
def lw_privs_1 : List (MethodName × Nat) := [(⟨"TicketWeaver", "hasEachMailOnce", "()Z"⟩, 15), (⟨"TicketWeaver", "agreesOnNextTickets", "()Z"⟩, 15), (⟨"TicketWeaver", "nextFromQueues", "(LTicketWeaver$Agent;)LTicketWeaver$Ticket;"⟩, 15), (⟨"TicketWeaver", "nextFromTickets", "(LTicketWeaver$Agent;)LTicketWeaver$Ticket;"⟩, 15), (⟨"java/lang/Throwable", "fillInStackTrace", "(I)Ljava/lang/Throwable;"⟩, 6), (⟨"TicketWeaver", "orderQueuesAnew", "()V"⟩, 15), (⟨"java/util/ArrayList", "fastRemove", "([Ljava/lang/Object;I)V"⟩, 3), (⟨"TicketWeaver$TopicQueue", "insertBelow", "(ILTicketWeaver$Ticket;)V"⟩, 1), (⟨"java/util/ArrayList", "rangeCheckForAdd", "(I)V"⟩, 3), (⟨"java/util/ArrayList", "outOfBoundsMsg", "(I)Ljava/lang/String;"⟩, 3), (⟨"java/util/ArrayList", "grow", "()[Ljava/lang/Object;"⟩, 3), (⟨"java/util/ArrayList", "grow", "(I)[Ljava/lang/Object;"⟩, 3), (⟨"TicketWeaver", "ticketToJoin", "(LTicketWeaver$Customer;II)LTicketWeaver$Ticket;"⟩, 15), (⟨"TicketWeaver", "latestWithSubject", "(LTicketWeaver$Customer;I)LTicketWeaver$Ticket;"⟩, 15), (⟨"java/util/ArrayList", "add", "(Ljava/lang/Object;[Ljava/lang/Object;I)V"⟩, 3), (⟨"TicketWeaver", "leaveQueue", "(LTicketWeaver$Ticket;)V"⟩, 15)]
theorem lw_r1 : ∀ q ∈ lw_privs_1, lw_okq q := List.forall_mem_cons.mpr ⟨lw_p0, List.forall_mem_cons.mpr ⟨lw_p1, List.forall_mem_cons.mpr ⟨lw_p2, List.forall_mem_cons.mpr ⟨lw_p3, List.forall_mem_cons.mpr ⟨lw_p4, List.forall_mem_cons.mpr ⟨lw_p5, List.forall_mem_cons.mpr ⟨lw_p6, List.forall_mem_cons.mpr ⟨lw_p7, List.forall_mem_cons.mpr ⟨lw_p8, List.forall_mem_cons.mpr ⟨lw_p9, List.forall_mem_cons.mpr ⟨lw_p10, List.forall_mem_cons.mpr ⟨lw_p11, List.forall_mem_cons.mpr ⟨lw_p12, List.forall_mem_cons.mpr ⟨lw_p13, List.forall_mem_cons.mpr ⟨lw_p14, List.forall_mem_cons.mpr ⟨lw_p15, fun _ h => absurd h List.not_mem_nil⟩⟩⟩⟩⟩⟩⟩⟩⟩⟩⟩⟩⟩⟩⟩⟩
theorem lw_p16 : lw_okq (⟨"TicketWeaver", "addMail", "(LTicketWeaver$Ticket;I)V"⟩, 15) := ⟨⟨by decide +kernel, by decide +kernel⟩, List.mem_of_getElem? (i := 36) (by decide +kernel), List.mem_of_getElem? (i := 836) (by decide +kernel), List.mem_of_getElem? (i := 837) (by decide +kernel)⟩
theorem lw_p17 : lw_okq (⟨"TicketWeaver", "joinQueue", "(LTicketWeaver$Ticket;)V"⟩, 15) := ⟨⟨by decide +kernel, by decide +kernel⟩, List.mem_of_getElem? (i := 36) (by decide +kernel), List.mem_of_getElem? (i := 870) (by decide +kernel), List.mem_of_getElem? (i := 871) (by decide +kernel)⟩
theorem lw_p18 : lw_okq (⟨"TicketWeaver", "ticketNumbered", "(I)LTicketWeaver$Ticket;"⟩, 15) := ⟨⟨by decide +kernel, by decide +kernel⟩, List.mem_of_getElem? (i := 36) (by decide +kernel), List.mem_of_getElem? (i := 909) (by decide +kernel), List.mem_of_getElem? (i := 910) (by decide +kernel)⟩
theorem lw_p19 : lw_okq (⟨"TicketWeaver", "agentNumbered", "(I)LTicketWeaver$Agent;"⟩, 15) := ⟨⟨by decide +kernel, by decide +kernel⟩, List.mem_of_getElem? (i := 36) (by decide +kernel), List.mem_of_getElem? (i := 1021) (by decide +kernel), List.mem_of_getElem? (i := 1022) (by decide +kernel)⟩
theorem lw_p20 : lw_okq (⟨"TicketWeaver", "giveAllBack", "(LTicketWeaver$Agent;)V"⟩, 15) := ⟨⟨by decide +kernel, by decide +kernel⟩, List.mem_of_getElem? (i := 36) (by decide +kernel), List.mem_of_getElem? (i := 1055) (by decide +kernel), List.mem_of_getElem? (i := 1056) (by decide +kernel)⟩
theorem lw_p21 : lw_okq (⟨"TicketWeaver", "isAnswer", "(I)Z"⟩, 15) := ⟨⟨by decide +kernel, by decide +kernel⟩, List.mem_of_getElem? (i := 36) (by decide +kernel), List.mem_of_getElem? (i := 1152) (by decide +kernel), List.mem_of_getElem? (i := 1153) (by decide +kernel)⟩
theorem lw_p22 : lw_okq (⟨"TicketWeaver", "countAnswer", "(LTicketWeaver$Ticket;)V"⟩, 15) := ⟨⟨by decide +kernel, by decide +kernel⟩, List.mem_of_getElem? (i := 36) (by decide +kernel), List.mem_of_getElem? (i := 1158) (by decide +kernel), List.mem_of_getElem? (i := 1159) (by decide +kernel)⟩
theorem lw_p23 : lw_okq (⟨"TicketWeaver", "closedTickets", "()I"⟩, 15) := ⟨⟨by decide +kernel, by decide +kernel⟩, List.mem_of_getElem? (i := 36) (by decide +kernel), List.mem_of_getElem? (i := 1175) (by decide +kernel), List.mem_of_getElem? (i := 1176) (by decide +kernel)⟩
theorem lw_p24 : lw_okq (⟨"TicketWeaver", "bestFromAnswers", "(LTicketWeaver$Ticket;)I"⟩, 15) := ⟨⟨by decide +kernel, by decide +kernel⟩, List.mem_of_getElem? (i := 36) (by decide +kernel), List.mem_of_getElem? (i := 1235) (by decide +kernel), List.mem_of_getElem? (i := 1236) (by decide +kernel)⟩
theorem lw_p25 : lw_okq (⟨"TicketWeaver", "bestFromWords", "(LTicketWeaver$Ticket;)I"⟩, 15) := ⟨⟨by decide +kernel, by decide +kernel⟩, List.mem_of_getElem? (i := 36) (by decide +kernel), List.mem_of_getElem? (i := 1247) (by decide +kernel), List.mem_of_getElem? (i := 1248) (by decide +kernel)⟩
theorem lw_p26 : lw_okq (⟨"TicketWeaver", "scoreWords", "(I)V"⟩, 15) := ⟨⟨by decide +kernel, by decide +kernel⟩, List.mem_of_getElem? (i := 36) (by decide +kernel), List.mem_of_getElem? (i := 1251) (by decide +kernel), List.mem_of_getElem? (i := 1252) (by decide +kernel)⟩
theorem lw_p27 : lw_okq (⟨"TicketWeaver", "scoreWord", "(I)V"⟩, 15) := ⟨⟨by decide +kernel, by decide +kernel⟩, List.mem_of_getElem? (i := 36) (by decide +kernel), List.mem_of_getElem? (i := 1258) (by decide +kernel), List.mem_of_getElem? (i := 1259) (by decide +kernel)⟩
theorem lw_p28 : lw_okq (⟨"TicketWeaverModel", "checked", "(Z)I"⟩, 30) := ⟨⟨by decide +kernel, by decide +kernel⟩, List.mem_of_getElem? (i := 1293) (by decide +kernel), List.mem_of_getElem? (i := 1403) (by decide +kernel), List.mem_of_getElem? (i := 1404) (by decide +kernel)⟩
theorem lw_p29 : lw_okq (⟨"TicketWeaverModel", "minute", "()I"⟩, 30) := ⟨⟨by decide +kernel, by decide +kernel⟩, List.mem_of_getElem? (i := 1293) (by decide +kernel), List.mem_of_getElem? (i := 1407) (by decide +kernel), List.mem_of_getElem? (i := 1408) (by decide +kernel)⟩
theorem lw_p30 : lw_okq (⟨"TicketWeaverModel", "leftFor", "(I)I"⟩, 30) := ⟨⟨by decide +kernel, by decide +kernel⟩, List.mem_of_getElem? (i := 1293) (by decide +kernel), List.mem_of_getElem? (i := 1411) (by decide +kernel), List.mem_of_getElem? (i := 1412) (by decide +kernel)⟩
theorem lw_p31 : lw_okq (⟨"TicketWeaverModel", "plain", "(I)I"⟩, 30) := ⟨⟨by decide +kernel, by decide +kernel⟩, List.mem_of_getElem? (i := 1293) (by decide +kernel), List.mem_of_getElem? (i := 1419) (by decide +kernel), List.mem_of_getElem? (i := 1420) (by decide +kernel)⟩
def lw_privs_2 : List (MethodName × Nat) := [(⟨"TicketWeaver", "addMail", "(LTicketWeaver$Ticket;I)V"⟩, 15), (⟨"TicketWeaver", "joinQueue", "(LTicketWeaver$Ticket;)V"⟩, 15), (⟨"TicketWeaver", "ticketNumbered", "(I)LTicketWeaver$Ticket;"⟩, 15), (⟨"TicketWeaver", "agentNumbered", "(I)LTicketWeaver$Agent;"⟩, 15), (⟨"TicketWeaver", "giveAllBack", "(LTicketWeaver$Agent;)V"⟩, 15), (⟨"TicketWeaver", "isAnswer", "(I)Z"⟩, 15), (⟨"TicketWeaver", "countAnswer", "(LTicketWeaver$Ticket;)V"⟩, 15), (⟨"TicketWeaver", "closedTickets", "()I"⟩, 15), (⟨"TicketWeaver", "bestFromAnswers", "(LTicketWeaver$Ticket;)I"⟩, 15), (⟨"TicketWeaver", "bestFromWords", "(LTicketWeaver$Ticket;)I"⟩, 15), (⟨"TicketWeaver", "scoreWords", "(I)V"⟩, 15), (⟨"TicketWeaver", "scoreWord", "(I)V"⟩, 15), (⟨"TicketWeaverModel", "checked", "(Z)I"⟩, 30), (⟨"TicketWeaverModel", "minute", "()I"⟩, 30), (⟨"TicketWeaverModel", "leftFor", "(I)I"⟩, 30), (⟨"TicketWeaverModel", "plain", "(I)I"⟩, 30)]
theorem lw_r2 : ∀ q ∈ lw_privs_2, lw_okq q := List.forall_mem_cons.mpr ⟨lw_p16, List.forall_mem_cons.mpr ⟨lw_p17, List.forall_mem_cons.mpr ⟨lw_p18, List.forall_mem_cons.mpr ⟨lw_p19, List.forall_mem_cons.mpr ⟨lw_p20, List.forall_mem_cons.mpr ⟨lw_p21, List.forall_mem_cons.mpr ⟨lw_p22, List.forall_mem_cons.mpr ⟨lw_p23, List.forall_mem_cons.mpr ⟨lw_p24, List.forall_mem_cons.mpr ⟨lw_p25, List.forall_mem_cons.mpr ⟨lw_p26, List.forall_mem_cons.mpr ⟨lw_p27, List.forall_mem_cons.mpr ⟨lw_p28, List.forall_mem_cons.mpr ⟨lw_p29, List.forall_mem_cons.mpr ⟨lw_p30, List.forall_mem_cons.mpr ⟨lw_p31, fun _ h => absurd h List.not_mem_nil⟩⟩⟩⟩⟩⟩⟩⟩⟩⟩⟩⟩⟩⟩⟩⟩
theorem lw_p32 : lw_okq (⟨"TicketWeaverModel", "joined", "(III)I"⟩, 30) := ⟨⟨by decide +kernel, by decide +kernel⟩, List.mem_of_getElem? (i := 1293) (by decide +kernel), List.mem_of_getElem? (i := 1435) (by decide +kernel), List.mem_of_getElem? (i := 1436) (by decide +kernel)⟩
theorem lw_p33 : lw_okq (⟨"TicketWeaverModel", "counts", "(I)Z"⟩, 30) := ⟨⟨by decide +kernel, by decide +kernel⟩, List.mem_of_getElem? (i := 1293) (by decide +kernel), List.mem_of_getElem? (i := 1439) (by decide +kernel), List.mem_of_getElem? (i := 1440) (by decide +kernel)⟩
theorem lw_p34 : lw_okq (⟨"TicketWeaverModel", "isLive", "(I)Z"⟩, 30) := ⟨⟨by decide +kernel, by decide +kernel⟩, List.mem_of_getElem? (i := 1293) (by decide +kernel), List.mem_of_getElem? (i := 1443) (by decide +kernel), List.mem_of_getElem? (i := 1444) (by decide +kernel)⟩
theorem lw_p35 : lw_okq (⟨"TicketWeaverModel", "latest", "(I)I"⟩, 30) := ⟨⟨by decide +kernel, by decide +kernel⟩, List.mem_of_getElem? (i := 1293) (by decide +kernel), List.mem_of_getElem? (i := 1447) (by decide +kernel), List.mem_of_getElem? (i := 1448) (by decide +kernel)⟩
theorem lw_p36 : lw_okq (⟨"TicketWeaverModel", "makes", "(III)V"⟩, 30) := ⟨⟨by decide +kernel, by decide +kernel⟩, List.mem_of_getElem? (i := 1293) (by decide +kernel), List.mem_of_getElem? (i := 1451) (by decide +kernel), List.mem_of_getElem? (i := 1452) (by decide +kernel)⟩
theorem lw_p37 : lw_okq (⟨"TicketWeaverModel", "opens", "(I)V"⟩, 30) := ⟨⟨by decide +kernel, by decide +kernel⟩, List.mem_of_getElem? (i := 1293) (by decide +kernel), List.mem_of_getElem? (i := 1455) (by decide +kernel), List.mem_of_getElem? (i := 1456) (by decide +kernel)⟩
theorem lw_p38 : lw_okq (⟨"TicketWeaverModel", "learns", "(II)V"⟩, 30) := ⟨⟨by decide +kernel, by decide +kernel⟩, List.mem_of_getElem? (i := 1293) (by decide +kernel), List.mem_of_getElem? (i := 1459) (by decide +kernel), List.mem_of_getElem? (i := 1460) (by decide +kernel)⟩
theorem lw_p39 : lw_okq (⟨"TicketWeaverModel", "isTicket", "(I)Z"⟩, 30) := ⟨⟨by decide +kernel, by decide +kernel⟩, List.mem_of_getElem? (i := 1293) (by decide +kernel), List.mem_of_getElem? (i := 1475) (by decide +kernel), List.mem_of_getElem? (i := 1476) (by decide +kernel)⟩
theorem lw_p40 : lw_okq (⟨"TicketWeaverModel", "countOf", "(I)I"⟩, 30) := ⟨⟨by decide +kernel, by decide +kernel⟩, List.mem_of_getElem? (i := 1293) (by decide +kernel), List.mem_of_getElem? (i := 1479) (by decide +kernel), List.mem_of_getElem? (i := 1480) (by decide +kernel)⟩
theorem lw_p41 : lw_okq (⟨"TicketWeaverModel", "hasSkill", "(II)Z"⟩, 30) := ⟨⟨by decide +kernel, by decide +kernel⟩, List.mem_of_getElem? (i := 1293) (by decide +kernel), List.mem_of_getElem? (i := 1503) (by decide +kernel), List.mem_of_getElem? (i := 1504) (by decide +kernel)⟩
theorem lw_p42 : lw_okq (⟨"TicketWeaverModel", "wrongLive", "(I)I"⟩, 30) := ⟨⟨by decide +kernel, by decide +kernel⟩, List.mem_of_getElem? (i := 1293) (by decide +kernel), List.mem_of_getElem? (i := 1511) (by decide +kernel), List.mem_of_getElem? (i := 1512) (by decide +kernel)⟩
theorem lw_p43 : lw_okq (⟨"TicketWeaverModel", "isAgent", "(I)Z"⟩, 30) := ⟨⟨by decide +kernel, by decide +kernel⟩, List.mem_of_getElem? (i := 1293) (by decide +kernel), List.mem_of_getElem? (i := 1531) (by decide +kernel), List.mem_of_getElem? (i := 1532) (by decide +kernel)⟩
theorem lw_p44 : lw_okq (⟨"TicketWeaverModel", "heldBy", "(I)I"⟩, 30) := ⟨⟨by decide +kernel, by decide +kernel⟩, List.mem_of_getElem? (i := 1293) (by decide +kernel), List.mem_of_getElem? (i := 1546) (by decide +kernel), List.mem_of_getElem? (i := 1547) (by decide +kernel)⟩
theorem lw_p45 : lw_okq (⟨"TicketWeaverModel", "next", "(I)I"⟩, 30) := ⟨⟨by decide +kernel, by decide +kernel⟩, List.mem_of_getElem? (i := 1293) (by decide +kernel), List.mem_of_getElem? (i := 1558) (by decide +kernel), List.mem_of_getElem? (i := 1559) (by decide +kernel)⟩
theorem lw_p46 : lw_okq (⟨"TicketWeaverModel", "isFor", "(II)Z"⟩, 30) := ⟨⟨by decide +kernel, by decide +kernel⟩, List.mem_of_getElem? (i := 1293) (by decide +kernel), List.mem_of_getElem? (i := 1562) (by decide +kernel), List.mem_of_getElem? (i := 1563) (by decide +kernel)⟩
theorem lw_p47 : lw_okq (⟨"TicketWeaverModel", "canAnswer", "(II)Z"⟩, 30) := ⟨⟨by decide +kernel, by decide +kernel⟩, List.mem_of_getElem? (i := 1293) (by decide +kernel), List.mem_of_getElem? (i := 1566) (by decide +kernel), List.mem_of_getElem? (i := 1567) (by decide +kernel)⟩
def lw_privs_3 : List (MethodName × Nat) := [(⟨"TicketWeaverModel", "joined", "(III)I"⟩, 30), (⟨"TicketWeaverModel", "counts", "(I)Z"⟩, 30), (⟨"TicketWeaverModel", "isLive", "(I)Z"⟩, 30), (⟨"TicketWeaverModel", "latest", "(I)I"⟩, 30), (⟨"TicketWeaverModel", "makes", "(III)V"⟩, 30), (⟨"TicketWeaverModel", "opens", "(I)V"⟩, 30), (⟨"TicketWeaverModel", "learns", "(II)V"⟩, 30), (⟨"TicketWeaverModel", "isTicket", "(I)Z"⟩, 30), (⟨"TicketWeaverModel", "countOf", "(I)I"⟩, 30), (⟨"TicketWeaverModel", "hasSkill", "(II)Z"⟩, 30), (⟨"TicketWeaverModel", "wrongLive", "(I)I"⟩, 30), (⟨"TicketWeaverModel", "isAgent", "(I)Z"⟩, 30), (⟨"TicketWeaverModel", "heldBy", "(I)I"⟩, 30), (⟨"TicketWeaverModel", "next", "(I)I"⟩, 30), (⟨"TicketWeaverModel", "isFor", "(II)Z"⟩, 30), (⟨"TicketWeaverModel", "canAnswer", "(II)Z"⟩, 30)]
theorem lw_r3 : ∀ q ∈ lw_privs_3, lw_okq q := List.forall_mem_cons.mpr ⟨lw_p32, List.forall_mem_cons.mpr ⟨lw_p33, List.forall_mem_cons.mpr ⟨lw_p34, List.forall_mem_cons.mpr ⟨lw_p35, List.forall_mem_cons.mpr ⟨lw_p36, List.forall_mem_cons.mpr ⟨lw_p37, List.forall_mem_cons.mpr ⟨lw_p38, List.forall_mem_cons.mpr ⟨lw_p39, List.forall_mem_cons.mpr ⟨lw_p40, List.forall_mem_cons.mpr ⟨lw_p41, List.forall_mem_cons.mpr ⟨lw_p42, List.forall_mem_cons.mpr ⟨lw_p43, List.forall_mem_cons.mpr ⟨lw_p44, List.forall_mem_cons.mpr ⟨lw_p45, List.forall_mem_cons.mpr ⟨lw_p46, List.forall_mem_cons.mpr ⟨lw_p47, fun _ h => absurd h List.not_mem_nil⟩⟩⟩⟩⟩⟩⟩⟩⟩⟩⟩⟩⟩⟩⟩⟩
theorem lw_p48 : lw_okq (⟨"TicketWeaverModel", "isSooner", "(II)Z"⟩, 30) := ⟨⟨by decide +kernel, by decide +kernel⟩, List.mem_of_getElem? (i := 1293) (by decide +kernel), List.mem_of_getElem? (i := 1570) (by decide +kernel), List.mem_of_getElem? (i := 1571) (by decide +kernel)⟩
theorem lw_p49 : lw_okq (⟨"TicketWeaverModel", "turns", "(ICC)I"⟩, 30) := ⟨⟨by decide +kernel, by decide +kernel⟩, List.mem_of_getElem? (i := 1293) (by decide +kernel), List.mem_of_getElem? (i := 1599) (by decide +kernel), List.mem_of_getElem? (i := 1600) (by decide +kernel)⟩
theorem lw_p50 : lw_okq (⟨"TicketWeaverModel", "wordsOf", "(I)I"⟩, 30) := ⟨⟨by decide +kernel, by decide +kernel⟩, List.mem_of_getElem? (i := 1293) (by decide +kernel), List.mem_of_getElem? (i := 1631) (by decide +kernel), List.mem_of_getElem? (i := 1632) (by decide +kernel)⟩
def lw_privs_4 : List (MethodName × Nat) := [(⟨"TicketWeaverModel", "isSooner", "(II)Z"⟩, 30), (⟨"TicketWeaverModel", "turns", "(ICC)I"⟩, 30), (⟨"TicketWeaverModel", "wordsOf", "(I)I"⟩, 30)]
theorem lw_r4 : ∀ q ∈ lw_privs_4, lw_okq q := List.forall_mem_cons.mpr ⟨lw_p48, List.forall_mem_cons.mpr ⟨lw_p49, List.forall_mem_cons.mpr ⟨lw_p50, fun _ h => absurd h List.not_mem_nil⟩⟩⟩
def lw_privs : List (MethodName × Nat) := lw_privs_1 ++ (lw_privs_2 ++ (lw_privs_3 ++ (lw_privs_4)))
def lw_tbl : List Cond := k2_sels lw_privs ++ tables_1
theorem lw_privs_ok : ∀ q ∈ lw_privs, lw_okq q := by
  show ∀ q ∈ lw_privs_1 ++ (lw_privs_2 ++ (lw_privs_3 ++ (lw_privs_4))), lw_okq q
  exact List.forall_mem_append.mpr ⟨lw_r1, List.forall_mem_append.mpr ⟨lw_r2, List.forall_mem_append.mpr ⟨lw_r3, lw_r4⟩⟩⟩
/-- the streams that the claim lets the run draw from -/
abbrev lw_cs : List Choice := [Jvm.Choice.named "NaN.bits"]
theorem lw_bits : nanBits ∈ lw_cs := by first | decide | exact List.mem_cons_self | simp [lw_cs, nanBits]
end
section
/-! ===== BEGIN words of one list among another's, by their places ===== -/
theorem goodIn_r {big : List Cond} (ws : List Cond) (ps : List Nat) (hp : ws = ps.filterMap (fun i => big[i]?)) (h : ws.all goodWord = true) : GoodIn big ws := by
  intro w hw
  have h1 := List.all_eq_true.mp h w hw
  rw [hp] at hw
  obtain ⟨i, -, hi⟩ := List.mem_filterMap.mp hw
  have hm : w ∈ big := by first | exact List.mem_of_getElem? hi | exact List.getElem?_mem hi
  exact ⟨hm, good_of_word h1⟩
theorem goodIn_app {big a b : List Cond} (ha : GoodIn big a) (hb : GoodIn big b) : GoodIn big (a ++ b) := fun w h => (List.mem_append.mp h).elim (ha w) (hb w)
theorem goodIn_ca {big a b : List Cond} {c : Cond} (ha : GoodIn big (c :: a)) (hb : GoodIn big b) : GoodIn big (c :: (a ++ b)) := fun w h => (List.mem_cons.mp h).elim (fun e => ha w (List.mem_cons.mpr (Or.inl e))) (fun h => (List.mem_append.mp h).elim (fun h => ha w (List.mem_cons.mpr (Or.inr h))) (hb w))
theorem goodIn_sub {big ws : List Cond} (hm : ∀ w ∈ ws, w ∈ big) (h : ws.all goodWord = true) : GoodIn big ws := fun w hw => ⟨hm w hw, good_of_word (List.all_eq_true.mp h w hw)⟩
/-! ===== END ===== -/
/-! ===== BEGIN exceptions that leave a method, and their catching by the caller (launches without stack traces) ===== -/
section VXA
/-! The laws vx_back, vx_callV, vx_callS, vx_callSW, vx_throw0, vx_throwS follow proofs of the library, with one case more: JvmDerived/Free/Laws.lean (Back.of_free), Shelf42/LK1.lean (callV, callS), Shelf/KitTraced.lean (throwNew0V, throwNewS). -/
/-- where a method has thrown q: the class by its name, the cell, what was written, the world -/
def vx_T (XC : String → State → State → Prop) (st : State) (q : Addr) (t : State) (mc ms : Nat) (free : Addr → Prop) : Prop :=
  ∃ (E : String) (ce : Cell) (L : List Loc), XC E st t ∧ t.heap[q]? = some ce ∧ ce.vm = .none ∧ st.vm.findClass E = some ce.cls ∧ st.WarmedH t.vm ∧ st.sameButNew ({ t with vm := st.vm } : State) L mc ms ∧ ∀ z ∈ L, free z.base
def vx_Q (Qc : Array Value → State → Outcome → State → Prop) (XC : String → State → State → Prop) (mc ms : Nat) (free : Addr → Prop) : Array Value → State → Outcome → State → Prop := fun a st o t =>
  (Qc a st o t ∧ ∃ L, FrameEnd st o t L mc ms ∧ ∀ q ∈ L, free q.base) ∨ ∃ q, o = .threw q ∧ vx_T XC st q t mc ms free
/-- a callee that returns or throws -/
def vx_Met (l : Launch) (y : MethodName) (ws : List Cond) (rm : Room) (Pc : Array Value → State → Prop) (Qc : Array Value → State → Outcome → State → Prop) (XC : String → State → State → Prop) (mc ms : Nat) (free : Addr → Prop) : Prop :=
  MetFree l y (headSpec ws rm) Pc (fun _ _ _ _ _ => True) (vx_Q Qc XC mc ms free)
def vx_Post (XC : String → State → State → Prop) (mc ms : Nat) (free : Addr → Prop) : Pt → Array Value → Addr → Pt → Prop := fun A a q B =>
  ∃ (g : JFrame) (mk : MethodId) (t : State) (L : List Loc) (E : String) (ce : Cell), B.U.heap = t.heap ∧ B.U.vm = t.vm ∧ XC E (A.U.calling g mk a) t ∧ t.heap[q]? = some ce ∧ ce.vm = .none ∧ A.U.vm.findClass E = some ce.cls ∧ B.locs = A.locs ++ L ∧ (∀ z ∈ L, free z.base) ∧ B.cells = A.cells + mc ∧ B.slots = A.slots + ms
def vx_Back (l : Launch) (R : Room) (p : Program) (e : Env) (below : List Frame) (s : State) (sargs : Array Value) (y : MethodName) (len W9 : Nat)
    (Pre : Pt → Array Value → Prop) (Post : Pt → Array Value → Option Value → Pt → Prop) (PostX : Pt → Array Value → Addr → Pt → Prop) : Prop :=
  ∀ (m : MethodId) (meth : Method) (c : Code) (A : Pt) (g : JFrame) (ig : Instr) (mk : MethodId) (a : Array Value),
    Stand p l e R s m sargs below meth c A.U A.locs A.cells A.slots → g.method = m → g.locals.size = c.maxLocals → decode c.code g.pc = .ok (ig, len) →
    2 * g.monitorRoom + (g.stack.map fun v => v.category).sum ≤ W9 → A.U.methodNamed? y = some mk → Pre A a →
    (∃ (v : Option Value) (B : Pt), Stand p l e R s m sargs below meth c B.U B.locs B.cells B.slots ∧ Post A a v B ∧
      Steps p.tables e below (doInvoke e (A.U.setTop g) [] mk a).1 (B.U.setTop { g with pc := g.pc + len, stack := v.toList ++ g.stack })) ∨
    (∃ (q : Addr) (B : Pt), Stand p l e R s m sargs below meth c B.U B.locs B.cells B.slots ∧ PostX A a q B ∧
      Steps p.tables e below (doInvoke e (A.U.setTop g) [] mk a).1 ((B.U.setTop g).pushFrame (.throwing q)))
section Payer
variable {l : Launch} {R : Room} {p : Program} {e : Env} {below : List Frame} {s : State} {sargs : Array Value} {y : MethodName} {len W9 : Nat}
theorem vx_back {ws : List Cond} {rm : Room} {Pc : Array Value → State → Prop} {Qc : Array Value → State → Outcome → State → Prop} {XC : String → State → State → Prop} {mc ms : Nat} {free : Addr → Prop} {bytes : ByteArray} {maxL : Nat} {ret : Option FieldType}
    (hM : vx_Met l y ws rm Pc Qc XC mc ms free) (hblind : FrameBlind Pc) (hrc : rm.cells = mc) (hrs : rm.slots = ms)
    (hframes : rm.frames + 1 ≤ R.frames) (hlocals : W9 + (maxL + 11) + rm.locals ≤ R.locals)
    (hws : ∀ w ∈ ws, ∀ a' U, s.WarmedH U.vm → w.before a' U = true) (hcode : Cond.code y bytes maxL ret ∈ ws) (hinit : ∀ a' U, s.WarmedH U.vm → (Cond.initialized y.cls).before a' U = true) :
    vx_Back l R p e below s sargs y len W9 (PreOf R mc ms Pc) (PostOf Qc mc ms free) (vx_Post XC mc ms free) := by
  intro m meth c A g ig mk a X hg hsize hdg hW hn hp
  have h1 : (headSpec ws rm).pre.before a A.U = true := atoms_intro fun w hw => hws w hw _ _ X.warmed
  have h2 : (Cond.code y bytes maxL ret).before a A.U = true := hws _ hcode _ _ X.warmed
  have h3 : (Cond.initialized y.cls).before a A.U = true := hinit _ _ X.warmed
  have h4 : A.cells + (headSpec ws rm).room.cells ≤ R.cells := by rw [show (headSpec ws rm).room.cells = mc from hrc]; exact hp.1
  have h5 : A.slots + (headSpec ws rm).room.slots ≤ R.slots := by rw [show (headSpec ws rm).room.slots = ms from hrs]; exact hp.2.1
  have hPc : Pc a (A.U.calling g mk a) := hblind _ _ _ _ hp.2.2
  obtain ⟨U, Ls, c0, s0⟩ := A
  dsimp only [Pt.U, Pt.locs, Pt.cells, Pt.slots] at h1 h2 h3 h4 h5 X hn hPc ⊢
  obtain ⟨methY, cY, hmY, hcY, -, hlY, -, -, -, -⟩ := Cond.code_spec hn h2
  obtain ⟨kY, hkY, -⟩ := className_of_methodNamed hn
  have hinitY : kY.init = .initialized := Cond.initialized_spec (findClass_of_methodNamed hn) hkY h3
  have h : At U g.method c below := by rw [hg]; exact X.here
  have hlocals9 : W9 + (maxL + 11) + (headSpec ws rm).room.locals ≤ R.locals := hlocals
  have happ : (headSpec ws rm).appliesLoose y e.platform (U.calling g mk a) = true :=
    Spec.appliesLoose_calling (g := g) h hdg hn hkY hinitY
      (X.room_calling (g := g) (R' := (headSpec ws rm).room) hsize hmY hcY hframes (by rw [hlY]; omega) h4 h5) h1
  obtain ⟨mid, hmid⟩ := h.above
  have hfr : (U.setTop g).frames = (.java g :: mid) ++ below := by rw [State.frames_setTop' g h.top, hmid]; rfl
  obtain ⟨o, s₂, hsteps, -, hend, hq⟩ := Steps.callFree hM p X.admits X.cas X.clock (acts := []) hfr happ hPc trivial
  have hq' : vx_Q Qc XC mc ms free a (U.calling g mk a) o s₂ := hq
  rw [State.frames_setTop' g h.top] at hend
  obtain ⟨g₀, hg0⟩ := Option.isSome_iff_exists.mp h.top
  obtain ⟨r, hr⟩ := State.topJava?_eq_some.mp hg0
  have hr' : (({ U with heap := s₂.heap, slotsUsed := s₂.slotsUsed } : State).setVm s₂.vm).frames = .java g₀ :: r := hr
  rcases hq' with ⟨hqc, L, hfe, hL⟩ | ⟨q, rfl, E, ce, L, hx, hce, hcv, hcl, hW₂, hsm, hL⟩
  · obtain ⟨⟨v, rfl⟩, hW₂, e2, q2, q3, q4, q5, q6⟩ := id hfe
    have e3 : s₂ = ({ (U.calling g mk a).setFrames s₂.frames with heap := s₂.heap, slotsUsed := s₂.slotsUsed } : State).setVm s₂.vm := by
      have : s₂ = ({ s₂ with vm := (U.calling g mk a).vm } : State).setVm s₂.vm := rfl
      rw [e2] at this
      exact this
    obtain ⟨c₂, i₂, len₂, hc₂, hd₂, hf₂⟩ := hend
    have hW' : U.WarmedH s₂.vm := hW₂
    have hcc : c₂ = c := by
      have h1 : s₂.code? g.method = U.code? g.method := by
        rw [State.code?_eq, State.code?_eq, hW'.alike.method?]
      exact Option.some.inj (hc₂.symm.trans (h1.trans h.code))
    subst hcc
    have hlen : len₂ = len := by rw [hdg] at hd₂; cases hd₂; rfl
    subst hlen
    have hs₂ : s₂ = (({ U with heap := s₂.heap, slotsUsed := s₂.slotsUsed } : State).setVm s₂.vm).setTop { g with pc := g.pc + len₂, stack := v.toList ++ g.stack } := by
      refine e3.trans ?_
      rw [hf₂, State.calling_eq h.top, State.setFrames_setFrames, State.setTop_of_frames _ hr', hr]
      rfl
    have hsame : U.sameButNew ({ U with heap := s₂.heap, slotsUsed := s₂.slotsUsed } : State) L mc ms := by
      refine ⟨?_, q2, q3, q4, q5, q6⟩
      obtain ⟨t, ht, -⟩ := State.frames_cons hr
      show ({ U with heap := s₂.heap, slotsUsed := s₂.slotsUsed } : State) = { U.setFrames U.frames with heap := s₂.heap, slotsUsed := s₂.slotsUsed }
      rw [State.setFrames_self ht]
    subst hg
    refine Or.inl ⟨v, ⟨(({ U with heap := s₂.heap, slotsUsed := s₂.slotsUsed } : State).setVm s₂.vm), Ls ++ L, c0 + mc, s0 + ms⟩,
      ⟨X.admits, X.cas, X.clock, X.frames, X.room, X.hears, X.method, X.code, (X.here.setHeapUsed s₂.heap s₂.slotsUsed).setVm hW'.alike, X.tail, State.WarmedH.trans X.warmed hW', X.limits, X.bytes, X.same.trans (hsame.setVm s.vm)⟩,
      ⟨g, mk, s₂, L, rfl, rfl, hqc, rfl, hL, rfl, rfl⟩, ?_⟩
    show Steps p.tables e below _ ((({ U with heap := s₂.heap, slotsUsed := s₂.slotsUsed } : State).setVm s₂.vm).setTop { g with pc := g.pc + len₂, stack := v.toList ++ g.stack })
    rw [← hs₂]
    exact hsteps
  · obtain ⟨e2, q2, q3, q4, q5, q6⟩ := id hsm
    have e3 : s₂ = ({ (U.calling g mk a).setFrames s₂.frames with heap := s₂.heap, slotsUsed := s₂.slotsUsed } : State).setVm s₂.vm := by
      have : s₂ = ({ s₂ with vm := (U.calling g mk a).vm } : State).setVm s₂.vm := rfl
      rw [e2] at this
      exact this
    have hf₂ : s₂.frames = .throwing q :: .java g :: U.frames.tail := hend
    have hW' : U.WarmedH s₂.vm := hW₂
    have hs₂ : s₂ = ((({ U with heap := s₂.heap, slotsUsed := s₂.slotsUsed } : State).setVm s₂.vm).setTop g).pushFrame (.throwing q) := by
      refine e3.trans ?_
      rw [hf₂, State.calling_eq h.top, State.setFrames_setFrames, State.pushFrame, State.frames_setTop _ hr', State.setTop_of_frames _ hr', State.setFrames_setFrames, hr]
      rfl
    have hsame : U.sameButNew ({ U with heap := s₂.heap, slotsUsed := s₂.slotsUsed } : State) L mc ms := by
      refine ⟨?_, q2, q3, q4, q5, q6⟩
      obtain ⟨t, ht, -⟩ := State.frames_cons hr
      show ({ U with heap := s₂.heap, slotsUsed := s₂.slotsUsed } : State) = { U.setFrames U.frames with heap := s₂.heap, slotsUsed := s₂.slotsUsed }
      rw [State.setFrames_self ht]
    subst hg
    refine Or.inr ⟨q, ⟨(({ U with heap := s₂.heap, slotsUsed := s₂.slotsUsed } : State).setVm s₂.vm), Ls ++ L, c0 + mc, s0 + ms⟩,
      ⟨X.admits, X.cas, X.clock, X.frames, X.room, X.hears, X.method, X.code, (X.here.setHeapUsed s₂.heap s₂.slotsUsed).setVm hW'.alike, X.tail, State.WarmedH.trans X.warmed hW', X.limits, X.bytes, X.same.trans (hsame.setVm s.vm)⟩,
      ⟨g, mk, s₂, L, E, ce, rfl, rfl, hx, hce, hcv, hcl, rfl, hL, rfl, rfl⟩, ?_⟩
    show Steps p.tables e below _ (((({ U with heap := s₂.heap, slotsUsed := s₂.slotsUsed } : State).setVm s₂.vm).setTop g).pushFrame (.throwing q))
    rw [← hs₂]
    exact hsteps
end Payer
section Calls
variable {p : Program} {l : Launch} {e : Env} {R : Room} {s : State} {m : MethodId} {args : Array Value} {below : List Frame} {meth : Method} {c : Code} {T : State} {locs : List Loc} {cells slots : Nat}
theorem vx_callV (X : Stand p l e R s m args below meth c T locs cells slots) (hexec : p.tables.exec = Jvm.exec) {own C : String} {index : Nat} {y : MethodName} {bytes : ByteArray} {maxL : Nat} {ret : Option FieldType}
    (hown : s.vm.findClass own = some m.cls) (hlink : (Cond.methodLink own index y).before args s = true) (hinst : (Cond.instanceMethod y).before args s = true) (hsel : (Cond.selects C y y).before args s = true)
    (hcode : (Cond.code y bytes maxL ret).before args s = true) (hy : y.cls ≠ "java/lang/invoke/MethodHandle" ∧ y.cls ≠ "java/lang/invoke/VarHandle")
    {W9 : Nat} {Pre : Pt → Array Value → Prop} {Post : Pt → Array Value → Option Value → Pt → Prop} {PostX : Pt → Array Value → Addr → Pt → Prop} (hK : vx_Back l R p e below s args y 3 W9 Pre Post PostX)
    {b : Addr} {cellB : Cell} (hcell : T.heap[b]? = some cellB) (hobj : cellB.vm.isStatics = false) (hcls : s.vm.findClass C = some cellB.cls)
    {g : JFrame} (hg : g.method = m) (hsize : g.locals.size = c.maxLocals) {argsL rest : List Value} (hlen : ∀ sig, parseMethodDescriptor y.desc = some sig → argsL.length = sig.parameters.length)
    (hstack : g.stack = argsL.reverse ++ .ref b :: rest) (hW : 2 * g.monitorRoom + (rest.map fun v => v.category).sum ≤ W9) (hdg : decode c.code g.pc = .ok (.invokevirtual index, 3))
    (hpre : ∀ vm₁, s.WarmedH vm₁ → Pre ⟨T.setVm vm₁, locs, cells, slots⟩ (Value.ref b :: argsL).toArray) :
    (∃ (v : Option Value) (vm₁ : Vm) (B : Pt), s.WarmedH vm₁ ∧ Stand p l e R s m args below meth c B.U B.locs B.cells B.slots ∧ Post ⟨T.setVm vm₁, locs, cells, slots⟩ (Value.ref b :: argsL).toArray v B ∧
      ∀ target, Steps p.tables e below (B.U.setTop { g with pc := g.pc + 3, stack := v.toList ++ rest }) target → Steps p.tables e below (T.setTop g) target) ∨
    (∃ (q : Addr) (vm₁ : Vm) (B : Pt), s.WarmedH vm₁ ∧ Stand p l e R s m args below meth c B.U B.locs B.cells B.slots ∧ PostX ⟨T.setVm vm₁, locs, cells, slots⟩ (Value.ref b :: argsL).toArray q B ∧
      Steps p.tables e below (T.setTop g) ((B.U.setTop { g with stack := rest }).pushFrame (.throwing q))) := by
  obtain ⟨mk, methM, hnamed, hmethM, hstM, habM⟩ := Cond.instanceMethod_spec hinst
  obtain ⟨methM', cM, hmethM', -, -, -, -, -, -, hsigM⟩ := Cond.code_spec hnamed hcode
  cases hmethM.symm.trans hmethM'
  obtain ⟨c2, r2, m2, q1, q2, q3, q4, kP, hkP, hkPi⟩ := Cond.selects_spec hsel
  cases hcls.symm.trans q1
  cases (State.methodFound?_of_named hnamed hy).symm.trans q2
  cases hnamed.symm.trans q3
  have hselP : selectMethod e.platform s.vm cellB.cls mk = .method mk := by rw [Launch.admits_selectMethod X.admits]; exact q4
  obtain ⟨vm₁, X₁, hstep₁⟩ := X.invokevirtual hexec hown hlink hnamed hmethM hstM hkP hkPi hy (a := b) (cell := cellB) hcell
    (fun z h => by rw [h] at hobj; cases hobj) hselP hmethM habM hkP hkPi (g := g) hg (argsL := argsL) (rest := rest) (hlen _ hsigM) hstack hdg
  rcases hK m meth c ⟨T.setVm vm₁, locs, cells, slots⟩ { g with stack := rest } (.invokevirtual index) mk (Value.ref b :: argsL).toArray X₁ hg hsize hdg hW (X₁.named hnamed) (hpre vm₁ X₁.warmed) with ⟨v, B, X', hpost, hsteps⟩ | ⟨q, B, X', hpost, hsteps⟩
  · exact Or.inl ⟨v, vm₁, B, X₁.warmed, X', hpost, fun target h => hstep₁ _ fun acts => by rw [doInvoke_state]; exact hsteps.trans h⟩
  · exact Or.inr ⟨q, vm₁, B, X₁.warmed, X', hpost, hstep₁ _ fun acts => by rw [doInvoke_state]; exact hsteps⟩
theorem vx_callS (X : Stand p l e R s m args below meth c T locs cells slots) (hexec : p.tables.exec = Jvm.exec) {own : String} {index : Nat} {y : MethodName} {bytes : ByteArray} {maxL : Nat} {ret : Option FieldType}
    (hown : s.vm.findClass own = some m.cls) (hlink : (Cond.methodLink own index y).before args s = true) (hstat : (Cond.static y).before args s = true) (hinit : (Cond.initialized y.cls).before args s = true)
    (hcode : (Cond.code y bytes maxL ret).before args s = true) (hy : y.cls ≠ "java/lang/invoke/MethodHandle" ∧ y.cls ≠ "java/lang/invoke/VarHandle")
    {W9 : Nat} {Pre : Pt → Array Value → Prop} {Post : Pt → Array Value → Option Value → Pt → Prop} {PostX : Pt → Array Value → Addr → Pt → Prop} (hK : vx_Back l R p e below s args y 3 W9 Pre Post PostX)
    {g : JFrame} (hg : g.method = m) (hsize : g.locals.size = c.maxLocals) {argsL rest : List Value} (hlen : ∀ sig, parseMethodDescriptor y.desc = some sig → argsL.length = sig.parameters.length)
    (hstack : g.stack = argsL.reverse ++ rest) (hW : 2 * g.monitorRoom + (rest.map fun v => v.category).sum ≤ W9) (hdg : decode c.code g.pc = .ok (.invokestatic index, 3))
    (hpre : ∀ vm₁, s.WarmedH vm₁ → Pre ⟨T.setVm vm₁, locs, cells, slots⟩ argsL.toArray) :
    (∃ (v : Option Value) (vm₁ : Vm) (B : Pt), s.WarmedH vm₁ ∧ Stand p l e R s m args below meth c B.U B.locs B.cells B.slots ∧ Post ⟨T.setVm vm₁, locs, cells, slots⟩ argsL.toArray v B ∧
      ∀ target, Steps p.tables e below (B.U.setTop { g with pc := g.pc + 3, stack := v.toList ++ rest }) target → Steps p.tables e below (T.setTop g) target) ∨
    (∃ (q : Addr) (vm₁ : Vm) (B : Pt), s.WarmedH vm₁ ∧ Stand p l e R s m args below meth c B.U B.locs B.cells B.slots ∧ PostX ⟨T.setVm vm₁, locs, cells, slots⟩ argsL.toArray q B ∧
      Steps p.tables e below (T.setTop g) ((B.U.setTop { g with stack := rest }).pushFrame (.throwing q))) := by
  obtain ⟨mk, hnamed⟩ := Cond.code_named hcode
  obtain ⟨methM, cM, hmethM, -, -, -, -, -, -, hsigM⟩ := Cond.code_spec hnamed hcode
  have hstatic : methM.isStatic = true := Cond.static_spec hnamed hmethM hstat
  obtain ⟨kP, hkP, -⟩ := className_of_methodNamed hnamed
  have hinitP : kP.init = .initialized := Cond.initialized_spec (findClass_of_methodNamed hnamed) hkP hinit
  obtain ⟨vm₁, X₁, hstep₁⟩ := X.invokestatic hexec hown hlink hnamed hmethM hstatic hkP hinitP hy (g := g) hg (argsL := argsL) (rest := rest) (hlen _ hsigM) hstack hdg
  rcases hK m meth c ⟨T.setVm vm₁, locs, cells, slots⟩ { g with stack := rest } (.invokestatic index) mk argsL.toArray X₁ hg hsize hdg hW (X₁.named hnamed) (hpre vm₁ X₁.warmed) with ⟨v, B, X', hpost, hsteps⟩ | ⟨q, B, X', hpost, hsteps⟩
  · exact Or.inl ⟨v, vm₁, B, X₁.warmed, X', hpost, fun target h => hstep₁ _ fun acts => by rw [doInvoke_state]; exact hsteps.trans h⟩
  · exact Or.inr ⟨q, vm₁, B, X₁.warmed, X', hpost, hstep₁ _ fun acts => by rw [doInvoke_state]; exact hsteps⟩
end Calls
theorem vx_cls {s : State} {T : State} {vm₁ : Vm} {E : String} {k : ClassId} (hW : s.WarmedH vm₁) (h : (T.setVm vm₁).vm.findClass E = some k) : s.vm.findClass E = some k := by
  have h1 : vm₁.findClass E = some k := h
  rw [hW.alike.findClass] at h1
  exact h1
/-- the method's frame g, with q thrown over it -/
def vx_W (p : Program) (l : Launch) (e : Env) (R : Room) (s : State) (m : MethodId) (args : Array Value) (below : List Frame) (meth : Method) (c : Code) (H : Heap) (locs : List Loc) (cells slots : Nat) (Q : State → Prop) (g : JFrame) (q : Addr) : Prop :=
  ∀ T : State, T.heap = H → Stand p l e R s m args below meth c T locs cells slots → ∃ t, Steps p.tables e below ((T.setTop g).pushFrame (.throwing q)) t ∧ Q t
def vx_Run (p : Program) (l : Launch) (e : Env) (R : Room) (s : State) (m : MethodId) (args : Array Value) (below : List Frame) (meth : Method) (c : Code) (H : Heap) (locs : List Loc) (cells slots mc ms : Nat) (g : JFrame) (rest : List Value) (Qa : State → Outcome → State → Prop) (XC : String → State → State → Prop) (free : Addr → Prop) : Prop :=
  ∀ T : State, T.heap = H → Stand p l e R s m args below meth c T locs cells slots →
    (∃ (v : Option Value) (st₀ t T' : State) (L : List Loc), st₀.heap = H ∧ Stand p l e R s m args below meth c T' (locs ++ L) (cells + mc) (slots + ms) ∧ (∀ q ∈ L, free q.base) ∧ T'.heap = t.heap ∧ T'.vm = t.vm ∧ Qa st₀ (.returned v) t ∧
      Goes p e below T g T' { g with pc := g.pc + 3, stack := v.toList ++ rest }) ∨
    (∃ (q : Addr) (st₀ t T' : State) (L : List Loc) (E : String) (ce : Cell), st₀.heap = H ∧ Stand p l e R s m args below meth c T' (locs ++ L) (cells + mc) (slots + ms) ∧ (∀ z ∈ L, free z.base) ∧ T'.heap = t.heap ∧ T'.vm = t.vm ∧ XC E st₀ t ∧ t.heap[q]? = some ce ∧ ce.vm = .none ∧ s.vm.findClass E = some ce.cls ∧
      Steps p.tables e below (T.setTop g) ((T'.setTop { g with stack := rest }).pushFrame (.throwing q)))
def vx_X {S : Type} (px : S → Prop) (B : String → S → State → Prop) (A : Nat → Prop) : String → State → State → Prop := fun E st t => ∃ u : S, px u ∧ B E u t ∧ va_F A st t
section Runs
variable {p : Program} {l : Launch} {e : Env} {R : Room} {s : State} {m : MethodId} {args : Array Value} {below : List Frame} {meth : Method} {c : Code} {H : Heap} {locs : List Loc} {cells slots : Nat}
variable {y : MethodName} {bytes cc : ByteArray} {maxL nL mc ms n index : Nat} {ret : Option FieldType} {ws : List Cond} {rm : Room} {Pc : Array Value → State → Prop} {Qc : Array Value → State → Outcome → State → Prop} {XC : String → State → State → Prop} {free : Addr → Prop} {Ts : List Cond} {own C : String} {b : Addr} {As rest : List Value} {g : JFrame}
theorem vx_callBack (cb : CallB R s args own index y bytes maxL ret ws rm mc ms n) (hM : vx_Met l y ws rm Pc Qc XC mc ms free) (hbl : FrameBlind Pc) : vx_Back l R p e below s args y 3 8 (PreOf R mc ms Pc) (PostOf Qc mc ms free) (vx_Post XC mc ms free) := by
  obtain ⟨hrc, hrs, hfr, hlo, hws, hcw, -, hini, -⟩ := cb
  exact vx_back (bytes := bytes) (maxL := maxL) (ret := ret) hM hbl hrc hrs hfr hlo hws hcw (fun a' U hW => word_at hW (Or.inl (by first | rfl | simp [Cond.onTables, Cond.keeps, Cond.steady])) hini)
theorem vx_runV (S : CallFix p m c cc nL s args Ts own) (hM : vx_Met l y ws rm Pc Qc XC mc ms free) (cw : CallW R s args own C index y bytes maxL ret ws rm mc ms n) (hp : PreV s H C b Pc As)
    (hg : g.method = m) (hn : As.length = n) (hsize : g.locals.size = nL) (hstack : g.stack = As.reverse ++ .ref b :: rest) (hW : 2 * g.monitorRoom + (rest.map fun v => v.category).sum ≤ 8) (hdg : decode cc g.pc = .ok (.invokevirtual index, 3)) (hf : cells + mc ≤ R.cells ∧ slots + ms ≤ R.slots) :
    vx_Run p l e R s m args below meth c H locs cells slots mc ms g rest (Qc (Value.ref b :: As).toArray) XC free := by
  have hK : vx_Back l R p e below s args y 3 8 (PreOf R mc ms Pc) (PostOf Qc mc ms free) (vx_Post XC mc ms free) := vx_callBack cw.1 hM hp.1
  obtain ⟨⟨-, -, -, -, -, -, hcode, -, hy, hlen, hl⟩, hin, hse⟩ := cw
  obtain ⟨hx, hb, hml, ho, -⟩ := S
  obtain ⟨-, ⟨cellB, hcB, hoB, hclB⟩, hPc⟩ := hp
  intro T hT X
  rcases vx_callV X hx (C := C) (bytes := bytes) (maxL := maxL) (ret := ret) ho hl hin hse hcode hy hK (by rw [hT]; exact hcB) hoB hclB hg (hsize.trans hml.symm) (argsL := As) (rest := rest) (fun sig h => hn.trans (hlen sig h)) hstack hW (by rw [hb]; exact hdg)
    (fun vm₁ hW₁ => ⟨hf.1, hf.2, hPc (T.setVm vm₁) hT hW₁⟩) with ⟨v, vm₁, ⟨U', l2, c2, s2⟩, hW₁, X', ⟨g', mk, t, L, e1, e2, hq, h1, hL, h2, h3⟩, st⟩ | ⟨q, vm₁, ⟨U', l2, c2, s2⟩, hW₁, X', ⟨g', mk, t, L, E, ce, e1, e2, hq, hce, hcv, hcl, h1, hL, h2, h3⟩, st⟩
  · dsimp only [Pt.U, Pt.locs, Pt.cells, Pt.slots] at X' e1 e2 h1 h2 h3 st
    subst h1; subst h2; subst h3
    exact Or.inl ⟨v, (T.setVm vm₁).calling g' mk (Value.ref b :: As).toArray, t, U', L, hT, X', hL, e1, e2, hq, st⟩
  · dsimp only [Pt.U, Pt.locs, Pt.cells, Pt.slots] at X' e1 e2 h1 h2 h3 st hcl
    subst h1; subst h2; subst h3
    exact Or.inr ⟨q, (T.setVm vm₁).calling g' mk (Value.ref b :: As).toArray, t, U', L, E, ce, hT, X', hL, e1, e2, hq, hce, hcv, vx_cls hW₁ hcl, st⟩
theorem vx_runS (S : CallFix p m c cc nL s args Ts own) (hM : vx_Met l y ws rm Pc Qc XC mc ms free) (cw : CallB R s args own index y bytes maxL ret ws rm mc ms n ∧ (Cond.static y).before args s = true) (hp : PreS s H Pc As)
    (hg : g.method = m) (hn : As.length = n) (hsize : g.locals.size = nL) (hstack : g.stack = As.reverse ++ rest) (hW : 2 * g.monitorRoom + (rest.map fun v => v.category).sum ≤ 8) (hdg : decode cc g.pc = .ok (.invokestatic index, 3)) (hf : cells + mc ≤ R.cells ∧ slots + ms ≤ R.slots) :
    vx_Run p l e R s m args below meth c H locs cells slots mc ms g rest (Qc As.toArray) XC free := by
  have hK : vx_Back l R p e below s args y 3 8 (PreOf R mc ms Pc) (PostOf Qc mc ms free) (vx_Post XC mc ms free) := vx_callBack cw.1 hM hp.1
  obtain ⟨⟨-, -, -, -, -, -, hcode, hini, hy, hlen, hl⟩, hstt⟩ := cw
  obtain ⟨hx, hb, hml, ho, -⟩ := S
  intro T hT X
  rcases vx_callS X hx (bytes := bytes) (maxL := maxL) (ret := ret) ho hl hstt hini hcode hy hK hg (hsize.trans hml.symm) (argsL := As) (rest := rest) (fun sig h => hn.trans (hlen sig h)) hstack hW (by rw [hb]; exact hdg)
    (fun vm₁ hW₁ => ⟨hf.1, hf.2, hp.2 (T.setVm vm₁) hT hW₁⟩) with ⟨v, vm₁, ⟨U', l2, c2, s2⟩, hW₁, X', ⟨g', mk, t, L, e1, e2, hq, h1, hL, h2, h3⟩, st⟩ | ⟨q, vm₁, ⟨U', l2, c2, s2⟩, hW₁, X', ⟨g', mk, t, L, E, ce, e1, e2, hq, hce, hcv, hcl, h1, hL, h2, h3⟩, st⟩
  · dsimp only [Pt.U, Pt.locs, Pt.cells, Pt.slots] at X' e1 e2 h1 h2 h3 st
    subst h1; subst h2; subst h3
    exact Or.inl ⟨v, (T.setVm vm₁).calling g' mk As.toArray, t, U', L, hT, X', hL, e1, e2, hq, st⟩
  · dsimp only [Pt.U, Pt.locs, Pt.cells, Pt.slots] at X' e1 e2 h1 h2 h3 st hcl
    subst h1; subst h2; subst h3
    exact Or.inr ⟨q, (T.setVm vm₁).calling g' mk As.toArray, t, U', L, E, ce, hT, X', hL, e1, e2, hq, hce, hcv, vx_cls hW₁ hcl, st⟩
end Runs
section Rows
variable {p : Program} {l : Launch} {e : Env} {R : Room} {s : State} {m : MethodId} {args : Array Value} {below : List Frame} {meth : Method} {c : Code} {H : Heap} {locs : List Loc} {cells slots : Nat} {Q : State → Prop}
variable {mc ms : Nat} {free : Addr → Prop} {A0 A1 : Nat → Prop} {H0 : Heap} {a : Array Value} {pc : Nat} {ls : Array Slot} {st0 rest : List Value}
theorem vx_keep {st₀ t T' : State} {L : List Loc} (h0 : st₀.heap = H) (e1 : T'.heap = t.heap) (hS : va_S A0 H0 H locs) (hA : ∀ q, q < H.size → A1 q → A0 q) (hf : ∀ q, free q → A0 q) (hL : ∀ q ∈ L, free q.base) (hF : va_F A1 st₀ t) :
    H.size ≤ T'.heap.size ∧ (∀ q : Nat, q < H.size → ¬ A1 q → T'.heap[q]? = H[q]?) ∧ va_S A0 H0 T'.heap (locs ++ L) := by
  obtain ⟨hz, hk⟩ := hF
  rw [h0] at hz hk
  exact ⟨by rw [e1]; exact hz, fun q h1 h2 => by rw [e1]; exact hk q h1 h2,
    ⟨Nat.le_trans hS.1 (by rw [e1]; exact hz), fun q h1 h2 => by rw [e1, hk q (Nat.lt_of_lt_of_le h1 hS.1) (fun z => h2 (hA q (Nat.lt_of_lt_of_le h1 hS.1) z))]; exact hS.2.1 q h1 h2, fun q hq => by
      rcases List.mem_append.mp hq with h | h
      · exact hS.2.2 q h
      · exact hf _ (hL q h)⟩⟩
theorem vx_calli {S SX : Type} {post : Int32 → S → Prop} {px : SX → Prop} {B : S → State → Prop} {BX : String → SX → State → Prop} {AX : Nat → Prop} (hr : vx_Run p l e R s m args below meth c H locs cells slots mc ms (F0 m pc ls st0) rest (va_Qi post B A1 a) (vx_X px BX AX) free) (hS : va_S A0 H0 H locs) (hA : ∀ q, q < H.size → A1 q → A0 q) (hf : ∀ q, free q → A0 q) (hAX : ∀ q, q < H.size → AX q → A0 q)
    (kx : ∀ (E : String) (ce : Cell) (q9 : Addr) (u : SX) (t : State) (H1 : Heap) (locs1 : List Loc), t.heap = H1 → s.vm.Alike t.vm → px u → BX E u t → H.size ≤ H1.size → (∀ q : Nat, q < H.size → ¬ AX q → H1[q]? = H[q]?) → va_S A0 H0 H1 locs1 → H1[q9]? = some ce → ce.vm = .none → s.vm.findClass E = some ce.cls → vx_W p l e R s m args below meth c H1 locs1 (cells + mc) (slots + ms) Q (F0 m pc ls rest) q9)
    (kk : ∀ (r : Int32) (u : S) (t : State) (H1 : Heap) (locs1 : List Loc), t.heap = H1 → s.vm.Alike t.vm → post r u → B u t → H.size ≤ H1.size → (∀ q : Nat, q < H.size → ¬ A1 q → H1[q]? = H[q]?) → va_S A0 H0 H1 locs1 → W p l e R s m args below meth c H1 locs1 (cells + mc) (slots + ms) Q (F0 m (pc + 3) ls (.int r :: rest))) : W p l e R s m args below meth c H locs cells slots Q (F0 m pc ls st0) := by
  intro T hT X
  rcases hr T hT X with ⟨v, st₀, t, T', L, h0, X', hL, e1, e2, ⟨⟨r, u, hv, hp, hb⟩, hF⟩, st⟩ | ⟨q, st₀, t, T', L, E, ce, h0, X', hL, e1, e2, ⟨u, hp, hb, hF⟩, hce, hcv, hcl, st⟩
  · cases hv
    obtain ⟨k1, k2, k3⟩ := vx_keep h0 e1 hS hA hf hL hF
    obtain ⟨t2, a1, b1⟩ := kk r u t T'.heap (locs ++ L) e1.symm (by rw [← e2]; exact X'.warmed.alike) hp hb k1 k2 k3 T' rfl X'
    exact ⟨t2, st t2 a1, b1⟩
  · obtain ⟨k1, k2, k3⟩ := vx_keep h0 e1 hS hAX hf hL hF
    obtain ⟨t2, a1, b1⟩ := kx E ce q u t T'.heap (locs ++ L) e1.symm (by rw [← e2]; exact X'.warmed.alike) hp hb k1 k2 k3 (by rw [e1]; exact hce) hcv hcl T' rfl X'
    exact ⟨t2, st.trans a1, b1⟩
theorem vx_calll {S SX : Type} {post : Int64 → S → Prop} {px : SX → Prop} {B : S → State → Prop} {BX : String → SX → State → Prop} {AX : Nat → Prop} (hr : vx_Run p l e R s m args below meth c H locs cells slots mc ms (F0 m pc ls st0) rest (va_Ql post B A1 a) (vx_X px BX AX) free) (hS : va_S A0 H0 H locs) (hA : ∀ q, q < H.size → A1 q → A0 q) (hf : ∀ q, free q → A0 q) (hAX : ∀ q, q < H.size → AX q → A0 q)
    (kx : ∀ (E : String) (ce : Cell) (q9 : Addr) (u : SX) (t : State) (H1 : Heap) (locs1 : List Loc), t.heap = H1 → s.vm.Alike t.vm → px u → BX E u t → H.size ≤ H1.size → (∀ q : Nat, q < H.size → ¬ AX q → H1[q]? = H[q]?) → va_S A0 H0 H1 locs1 → H1[q9]? = some ce → ce.vm = .none → s.vm.findClass E = some ce.cls → vx_W p l e R s m args below meth c H1 locs1 (cells + mc) (slots + ms) Q (F0 m pc ls rest) q9)
    (kk : ∀ (r : Int64) (u : S) (t : State) (H1 : Heap) (locs1 : List Loc), t.heap = H1 → s.vm.Alike t.vm → post r u → B u t → H.size ≤ H1.size → (∀ q : Nat, q < H.size → ¬ A1 q → H1[q]? = H[q]?) → va_S A0 H0 H1 locs1 → W p l e R s m args below meth c H1 locs1 (cells + mc) (slots + ms) Q (F0 m (pc + 3) ls (.long r :: rest))) : W p l e R s m args below meth c H locs cells slots Q (F0 m pc ls st0) := by
  intro T hT X
  rcases hr T hT X with ⟨v, st₀, t, T', L, h0, X', hL, e1, e2, ⟨⟨r, u, hv, hp, hb⟩, hF⟩, st⟩ | ⟨q, st₀, t, T', L, E, ce, h0, X', hL, e1, e2, ⟨u, hp, hb, hF⟩, hce, hcv, hcl, st⟩
  · cases hv
    obtain ⟨k1, k2, k3⟩ := vx_keep h0 e1 hS hA hf hL hF
    obtain ⟨t2, a1, b1⟩ := kk r u t T'.heap (locs ++ L) e1.symm (by rw [← e2]; exact X'.warmed.alike) hp hb k1 k2 k3 T' rfl X'
    exact ⟨t2, st t2 a1, b1⟩
  · obtain ⟨k1, k2, k3⟩ := vx_keep h0 e1 hS hAX hf hL hF
    obtain ⟨t2, a1, b1⟩ := kx E ce q u t T'.heap (locs ++ L) e1.symm (by rw [← e2]; exact X'.warmed.alike) hp hb k1 k2 k3 (by rw [e1]; exact hce) hcv hcl T' rfl X'
    exact ⟨t2, st.trans a1, b1⟩
theorem vx_callf {S SX : Type} {post : UInt32 → S → Prop} {px : SX → Prop} {B : S → State → Prop} {BX : String → SX → State → Prop} {AX : Nat → Prop} (hr : vx_Run p l e R s m args below meth c H locs cells slots mc ms (F0 m pc ls st0) rest (va_Qf post B A1 a) (vx_X px BX AX) free) (hS : va_S A0 H0 H locs) (hA : ∀ q, q < H.size → A1 q → A0 q) (hf : ∀ q, free q → A0 q) (hAX : ∀ q, q < H.size → AX q → A0 q)
    (kx : ∀ (E : String) (ce : Cell) (q9 : Addr) (u : SX) (t : State) (H1 : Heap) (locs1 : List Loc), t.heap = H1 → s.vm.Alike t.vm → px u → BX E u t → H.size ≤ H1.size → (∀ q : Nat, q < H.size → ¬ AX q → H1[q]? = H[q]?) → va_S A0 H0 H1 locs1 → H1[q9]? = some ce → ce.vm = .none → s.vm.findClass E = some ce.cls → vx_W p l e R s m args below meth c H1 locs1 (cells + mc) (slots + ms) Q (F0 m pc ls rest) q9)
    (kk : ∀ (r : UInt32) (u : S) (t : State) (H1 : Heap) (locs1 : List Loc), t.heap = H1 → s.vm.Alike t.vm → post r u → B u t → H.size ≤ H1.size → (∀ q : Nat, q < H.size → ¬ A1 q → H1[q]? = H[q]?) → va_S A0 H0 H1 locs1 → W p l e R s m args below meth c H1 locs1 (cells + mc) (slots + ms) Q (F0 m (pc + 3) ls (.float r :: rest))) : W p l e R s m args below meth c H locs cells slots Q (F0 m pc ls st0) := by
  intro T hT X
  rcases hr T hT X with ⟨v, st₀, t, T', L, h0, X', hL, e1, e2, ⟨⟨r, u, hv, hp, hb⟩, hF⟩, st⟩ | ⟨q, st₀, t, T', L, E, ce, h0, X', hL, e1, e2, ⟨u, hp, hb, hF⟩, hce, hcv, hcl, st⟩
  · cases hv
    obtain ⟨k1, k2, k3⟩ := vx_keep h0 e1 hS hA hf hL hF
    obtain ⟨t2, a1, b1⟩ := kk r u t T'.heap (locs ++ L) e1.symm (by rw [← e2]; exact X'.warmed.alike) hp hb k1 k2 k3 T' rfl X'
    exact ⟨t2, st t2 a1, b1⟩
  · obtain ⟨k1, k2, k3⟩ := vx_keep h0 e1 hS hAX hf hL hF
    obtain ⟨t2, a1, b1⟩ := kx E ce q u t T'.heap (locs ++ L) e1.symm (by rw [← e2]; exact X'.warmed.alike) hp hb k1 k2 k3 (by rw [e1]; exact hce) hcv hcl T' rfl X'
    exact ⟨t2, st.trans a1, b1⟩
theorem vx_calld {S SX : Type} {post : UInt64 → S → Prop} {px : SX → Prop} {B : S → State → Prop} {BX : String → SX → State → Prop} {AX : Nat → Prop} (hr : vx_Run p l e R s m args below meth c H locs cells slots mc ms (F0 m pc ls st0) rest (va_Qd post B A1 a) (vx_X px BX AX) free) (hS : va_S A0 H0 H locs) (hA : ∀ q, q < H.size → A1 q → A0 q) (hf : ∀ q, free q → A0 q) (hAX : ∀ q, q < H.size → AX q → A0 q)
    (kx : ∀ (E : String) (ce : Cell) (q9 : Addr) (u : SX) (t : State) (H1 : Heap) (locs1 : List Loc), t.heap = H1 → s.vm.Alike t.vm → px u → BX E u t → H.size ≤ H1.size → (∀ q : Nat, q < H.size → ¬ AX q → H1[q]? = H[q]?) → va_S A0 H0 H1 locs1 → H1[q9]? = some ce → ce.vm = .none → s.vm.findClass E = some ce.cls → vx_W p l e R s m args below meth c H1 locs1 (cells + mc) (slots + ms) Q (F0 m pc ls rest) q9)
    (kk : ∀ (r : UInt64) (u : S) (t : State) (H1 : Heap) (locs1 : List Loc), t.heap = H1 → s.vm.Alike t.vm → post r u → B u t → H.size ≤ H1.size → (∀ q : Nat, q < H.size → ¬ A1 q → H1[q]? = H[q]?) → va_S A0 H0 H1 locs1 → W p l e R s m args below meth c H1 locs1 (cells + mc) (slots + ms) Q (F0 m (pc + 3) ls (.double r :: rest))) : W p l e R s m args below meth c H locs cells slots Q (F0 m pc ls st0) := by
  intro T hT X
  rcases hr T hT X with ⟨v, st₀, t, T', L, h0, X', hL, e1, e2, ⟨⟨r, u, hv, hp, hb⟩, hF⟩, st⟩ | ⟨q, st₀, t, T', L, E, ce, h0, X', hL, e1, e2, ⟨u, hp, hb, hF⟩, hce, hcv, hcl, st⟩
  · cases hv
    obtain ⟨k1, k2, k3⟩ := vx_keep h0 e1 hS hA hf hL hF
    obtain ⟨t2, a1, b1⟩ := kk r u t T'.heap (locs ++ L) e1.symm (by rw [← e2]; exact X'.warmed.alike) hp hb k1 k2 k3 T' rfl X'
    exact ⟨t2, st t2 a1, b1⟩
  · obtain ⟨k1, k2, k3⟩ := vx_keep h0 e1 hS hAX hf hL hF
    obtain ⟨t2, a1, b1⟩ := kx E ce q u t T'.heap (locs ++ L) e1.symm (by rw [← e2]; exact X'.warmed.alike) hp hb k1 k2 k3 (by rw [e1]; exact hce) hcv hcl T' rfl X'
    exact ⟨t2, st.trans a1, b1⟩
theorem vx_callv {S SX : Type} {post : S → Prop} {px : SX → Prop} {B : S → State → Prop} {BX : String → SX → State → Prop} {AX : Nat → Prop} (hr : vx_Run p l e R s m args below meth c H locs cells slots mc ms (F0 m pc ls st0) rest (va_Qv post B A1 a) (vx_X px BX AX) free) (hS : va_S A0 H0 H locs) (hA : ∀ q, q < H.size → A1 q → A0 q) (hf : ∀ q, free q → A0 q) (hAX : ∀ q, q < H.size → AX q → A0 q)
    (kx : ∀ (E : String) (ce : Cell) (q9 : Addr) (u : SX) (t : State) (H1 : Heap) (locs1 : List Loc), t.heap = H1 → s.vm.Alike t.vm → px u → BX E u t → H.size ≤ H1.size → (∀ q : Nat, q < H.size → ¬ AX q → H1[q]? = H[q]?) → va_S A0 H0 H1 locs1 → H1[q9]? = some ce → ce.vm = .none → s.vm.findClass E = some ce.cls → vx_W p l e R s m args below meth c H1 locs1 (cells + mc) (slots + ms) Q (F0 m pc ls rest) q9)
    (kk : ∀ (u : S) (t : State) (H1 : Heap) (locs1 : List Loc), t.heap = H1 → s.vm.Alike t.vm → post u → B u t → H.size ≤ H1.size → (∀ q : Nat, q < H.size → ¬ A1 q → H1[q]? = H[q]?) → va_S A0 H0 H1 locs1 → W p l e R s m args below meth c H1 locs1 (cells + mc) (slots + ms) Q (F0 m (pc + 3) ls (rest))) : W p l e R s m args below meth c H locs cells slots Q (F0 m pc ls st0) := by
  intro T hT X
  rcases hr T hT X with ⟨v, st₀, t, T', L, h0, X', hL, e1, e2, ⟨⟨u, hv, hp, hb⟩, hF⟩, st⟩ | ⟨q, st₀, t, T', L, E, ce, h0, X', hL, e1, e2, ⟨u, hp, hb, hF⟩, hce, hcv, hcl, st⟩
  · cases hv
    obtain ⟨k1, k2, k3⟩ := vx_keep h0 e1 hS hA hf hL hF
    obtain ⟨t2, a1, b1⟩ := kk u t T'.heap (locs ++ L) e1.symm (by rw [← e2]; exact X'.warmed.alike) hp hb k1 k2 k3 T' rfl X'
    exact ⟨t2, st t2 a1, b1⟩
  · obtain ⟨k1, k2, k3⟩ := vx_keep h0 e1 hS hAX hf hL hF
    obtain ⟨t2, a1, b1⟩ := kx E ce q u t T'.heap (locs ++ L) e1.symm (by rw [← e2]; exact X'.warmed.alike) hp hb k1 k2 k3 (by rw [e1]; exact hce) hcv hcl T' rfl X'
    exact ⟨t2, st.trans a1, b1⟩
/-- caught by the row x of this method's table; the rows ahead don't take it -/
theorem vx_catch {own name : String} {E : String} {ce : Cell} {q : Addr} (hown : s.vm.findClass own = some m.cls) (pre : List ExceptionTableEntry) (x : ExceptionTableEntry) (suf : List ExceptionTableEntry) (hsplit : c.exceptionTable.toList = pre ++ x :: suf)
    (hpass : ∀ z ∈ pre, covers z pc = false ∨ (z.catchType ≠ 0 ∧ ∃ nm : String, (Cond.classLink own z.catchType nm).before args s = true ∧ va_Nc E nm s)) (hx : covers x pc = true) (h0 : x.catchType ≠ 0)
    (hlink : (Cond.classLink own x.catchType name).before args s = true) (hcast : (Cond.castable E name).before args s = true) (hcell : H[q]? = some ce) (hv : ce.vm = .none) (hcl : s.vm.findClass E = some ce.cls)
    (kk : W p l e R s m args below meth c H locs cells slots Q (F0 m x.handlerPc ls [.ref q])) : vx_W p l e R s m args below meth c H locs cells slots Q (F0 m pc ls rest) q := by
  intro T hT X
  have hpl : e.platform.magicAccessors = ({} : Platform).magicAccessors := by rw [X.admits.platform]
  obtain ⟨c3, c4, hc3, hc4, hasg⟩ := Cond.castable_spec hcast
  cases Option.some.inj (hc3.symm.trans hcl)
  obtain ⟨c5, hc5, hcl5⟩ := Cond.classLink_spec hown hlink e.platform hpl
  cases Option.some.inj (hc4.symm.trans hc5)
  obtain ⟨vm', X', st⟩ := X.thenCaughtThrough q (g := F0 m pc ls rest) rfl (Steps.refl _) (by rw [hT]; exact hcell) (by rw [hv]; rfl) (by obtain ⟨k9, h9, -⟩ := Vm.findClass_spec hcl; exact ⟨k9, h9⟩) pre x suf hsplit
    (fun z hz => by
      rcases hpass z hz with h | ⟨hz0, nm, hl1, hn1⟩
      · exact Or.inl h
      · obtain ⟨c6, hc6, hcl6⟩ := Cond.classLink_spec hown hl1 e.platform hpl
        obtain ⟨a8, b8, h1, h2, h3⟩ := hn1
        cases Option.some.inj (h1.symm.trans hcl)
        cases Option.some.inj (h2.symm.trans hc6)
        exact Or.inr ⟨hz0, _, hcl6, h3⟩) hx (Or.inr ⟨h0, c4, hcl5, hasg⟩)
  obtain ⟨t, a1, b1⟩ := kk (T.setVm vm') hT X'
  exact ⟨t, st.trans a1, b1⟩
end Rows
section Ends
variable {p : Program} {l : Launch} {e : Env} {R : Room} {s : State} {m : MethodId} {args : Array Value} {below : List Frame} {meth : Method} {c : Code} {H : Heap} {locs : List Loc} {cells slots : Nat} {Q : State → Prop}
variable {mc ms : Nat} {free : Addr → Prop} {A0 A1 : Nat → Prop} {H0 : Heap} {a : Array Value} {ls : Array Slot} {st0 rest : List Value}
variable {Qc : Array Value → State → Outcome → State → Prop} {XC : String → State → State → Prop}
/-- what a body that may throw owes at its end -/
def vx_MQ (below : List Frame) (Qc : Array Value → State → Outcome → State → Prop) (XC : String → State → State → Prop) (a : Array Value) (s : State) (mc ms : Nat) (free : Addr → Prop) : State → Prop := fun t =>
  ∃ o, t.status = .running ∧ Ended t below o ∧ vx_Q Qc XC mc ms free a s o t
theorem vx_ret {g : JFrame} {mc ms : Nat} (k : W p l e R s m args below meth c H locs cells slots (MQ below Qc args s mc ms free) g) : W p l e R s m args below meth c H locs cells slots (vx_MQ below Qc XC args s mc ms free) g := by
  intro T hT X
  obtain ⟨t, a1, o, b1, b2, b3, b4⟩ := k T hT X
  exact ⟨t, a1, o, b1, b2, Or.inl ⟨b3, b4⟩⟩
/-- not caught here: it goes on to the caller -/
theorem vx_widen {g : JFrame} {q : Addr} {k n : Nat} (h1 : cells ≤ k) (h2 : slots ≤ n) (kk : vx_W p l e R s m args below meth c H locs k n Q g q) : vx_W p l e R s m args below meth c H locs cells slots Q g q := fun T hT X => kk T hT (stand_widen X h1 h2)
theorem vx_out {pc : Nat} {E : String} {ce : Cell} {q : Addr} {mc ms : Nat} (hout : ∀ x ∈ c.exceptionTable.toList, covers x pc = false) (hlocks : meth.locks = false) (hcell : H[q]? = some ce) (hv : ce.vm = .none) (hcl : s.vm.findClass E = some ce.cls)
    (hx : ∀ t : State, t.heap = H → s.vm.Alike t.vm → XC E s t) (hf : ∀ z ∈ locs, free z.base) (hc : cells ≤ mc) (hs : slots ≤ ms) :
    vx_W p l e R s m args below meth c H locs cells slots (vx_MQ below Qc XC args s mc ms free) (F0 m pc ls rest) q := by
  intro T hT X
  obtain ⟨st1, hrun, hend, hW, hsm⟩ := X.leaveThrown q (g := F0 m pc ls rest) rfl rfl rfl hout hlocks
  have hcell9 : (T.setFrames (.throwing q :: below)).heap[q]? = some ce := by
    show T.heap[q]? = some ce
    rw [hT]; exact hcell
  exact ⟨_, st1, .threw q, hrun, hend, Or.inr ⟨q, rfl, E, ce, locs, hx _ hT hW.alike, hcell9, hv, hcl, hW, hsm.mono hc hs, hf⟩⟩
theorem vx_frame {U : State} {k n : Nat} (h : s.sameButNew ({ U with vm := s.vm } : State) locs k n) : s.heap.size ≤ U.heap.size ∧ ∀ q : Nat, q < s.heap.size → (∀ z ∈ locs, z.base ≠ q) → U.heap[q]? = s.heap[q]? := by
  obtain ⟨-, h2, -, -, -, h6⟩ := h
  refine ⟨h2, fun q hq hz => ?_⟩
  obtain ⟨c9, e1, e2, e3, e4⟩ := h6 q _ (Array.getElem?_eq_getElem hq)
  have hs : c9.slots = (s.heap[q]).slots := Array.ext_getElem? fun i => e4 i fun hm => hz _ hm rfl
  have h9 : c9 = s.heap[q] := by
    rw [hs] at e2
    exact e2
  have e5 : U.heap[q]? = some c9 := e1
  rw [e5, h9, Array.getElem?_eq_getElem hq]
/-- the words of a throw but the four that speak of the heap -/
def vx_no (w : Cond) : Bool := decide (w ≠ .isRef (.static Bundle.tN "UNASSIGNED_STACK" Bundle.steD)) && decide (w ≠ .isRef (.static Bundle.tN "SUPPRESSED_SENTINEL" Bundle.listD)) && decide (w ≠ .laysStatic Bundle.tN "UNASSIGNED_STACK" Bundle.steD) && decide (w ≠ .laysStatic Bundle.tN "SUPPRESSED_SENTINEL" Bundle.listD)
def vx_at0 (own : String) (ic : Nat) (X : String) (names : List String) : List Cond := (Bundle.ownAtoms0 own ic X names).filter vx_no
def vx_atS (own : String) (ic : Nat) (X : String) (names : List String) : List Cond := (Bundle.ownAtoms own ic X names).filter vx_no
/-- a word that the tables alone decide, or a good one -/
def vx_ot (w : Cond) : Bool := w.onTables || goodWord w
theorem vx_ot_at {args a' : Array Value} {s U : State} {w : Cond} (hW : s.WarmedH U.vm) (hvm : s.vm = U.vm) (hg : vx_ot w = true) (h : w.before args s = true) : w.before a' U = true := by
  simp only [vx_ot, Bool.or_eq_true] at hg
  rcases hg with hg | hg
  · exact va_tabs hg hvm h
  · exact word_at hW (good_of_word hg) h
/-- a list's words: the good ones out of the method's own list, the others by premises of their own -/
theorem vx_hat {args : Array Value} {s : State} {L B : List Cond} (h1 : ∀ w ∈ L.filter goodWord, w.before args s = true) (h2 : ∀ w ∈ L.filter (fun w => !goodWord w), w ∈ B) (h3 : ∀ w ∈ B, w.before args s = true) : ∀ w ∈ L, w.before args s = true := by
  intro w hw
  by_cases g : goodWord w = true
  · exact h1 w (List.mem_filter.mpr ⟨hw, g⟩)
  · refine h3 w (h2 w (List.mem_filter.mpr ⟨hw, ?_⟩))
    show (!goodWord w) = true
    cases hgw : goodWord w
    · rfl
    · exact absurd hgw g
theorem vx_c {args : Array Value} {s : State} {w : Cond} {B : List Cond} (h : w.before args s = true) (t : ∀ w ∈ B, w.before args s = true) : ∀ w' ∈ w :: B, w'.before args s = true := fun w' h' => (List.mem_cons.mp h').elim (fun e => by rw [e]; exact h) (t w')
theorem vx_n {args : Array Value} {s : State} : ∀ w ∈ ([] : List Cond), w.before args s = true := fun _ h => nomatch h
theorem vx_own {args : Array Value} {s : State} {L : List Cond} (h1 : ∀ w ∈ L.filter vx_no, w.before args s = true)
    (hU : (Cond.isRef (.static Bundle.tN "UNASSIGNED_STACK" Bundle.steD)).before args s = true) (hN : (Cond.isRef (.static Bundle.tN "SUPPRESSED_SENTINEL" Bundle.listD)).before args s = true)
    (lU : (Cond.laysStatic Bundle.tN "UNASSIGNED_STACK" Bundle.steD).before args s = true) (lN : (Cond.laysStatic Bundle.tN "SUPPRESSED_SENTINEL" Bundle.listD).before args s = true) : ∀ w ∈ L, w.before args s = true := by
  intro w hw
  by_cases e1 : w = .isRef (.static Bundle.tN "UNASSIGNED_STACK" Bundle.steD)
  · rw [e1]; exact hU
  · by_cases e2 : w = .isRef (.static Bundle.tN "SUPPRESSED_SENTINEL" Bundle.listD)
    · rw [e2]; exact hN
    · by_cases e3 : w = .laysStatic Bundle.tN "UNASSIGNED_STACK" Bundle.steD
      · rw [e3]; exact lU
      · by_cases e4 : w = .laysStatic Bundle.tN "SUPPRESSED_SENTINEL" Bundle.listD
        · rw [e4]; exact lN
        · exact h1 w (List.mem_filter.mpr ⟨hw, by unfold vx_no; rw [decide_eq_true e1, decide_eq_true e2, decide_eq_true e3, decide_eq_true e4]; rfl⟩)
/-- where a static field lies, its class's statics cell in H -/
def vx_L (C n d : String) (A : Nat → Prop) (U : State) (H : Heap) : Prop := ∃ (c : ClassId) (k : Class) (i : Nat) (f : Field) (a : Nat) (cell : Cell), U.vm.findClass C = some c ∧ U.fieldFound? C n d = some (c, k, i, f) ∧ f.isStatic = true ∧ k.statics = some a ∧ H[a]? = some cell ∧ cell.vm.isStatics = true ∧ cell.cls = c ∧ f.slot < cell.slots.size ∧ k.staticTypes[f.slot]? = some f.type ∧ ¬ A a
theorem vx_L.moved {C n d : String} {A : Nat → Prop} {u U : State} {H : Heap} (hvm : u.vm.Alike U.vm) (h : vx_L C n d A u H) : vx_L C n d A U H := by
  obtain ⟨c, k, i, f, a, cell, h1, h2, h3, h4, h5, h6, h7, h8, h9, h10⟩ := h
  obtain ⟨k', hi', he⟩ := State.fieldFound?_setVm hvm h2
  exact ⟨c, k', i, f, a, cell, by rw [hvm.findClass]; exact h1, hi', h3, by rw [he]; exact h4, h5, h6, h7, h8, by rw [he]; exact h9, h10⟩
theorem vx_L.kept {C n d : String} {A : Nat → Prop} {U : State} {H H1 : Heap} (h : vx_L C n d A U H) (hq : ∀ a : Nat, a < H.size → ¬ A a → H1[a]? = H[a]?) : vx_L C n d A U H1 := by
  obtain ⟨c, k, i, f, a, cell, h1, h2, h3, h4, h5, h6, h7, h8, h9, h10⟩ := h
  exact ⟨c, k, i, f, a, cell, h1, h2, h3, h4, by rw [hq a (Array.getElem?_eq_some_iff.mp h5).1 h10]; exact h5, h6, h7, h8, h9, h10⟩
theorem vx_L.narrow {C n d : String} {A B : Nat → Prop} {U : State} {H : Heap} (h : vx_L C n d A U H) (hAB : ∀ q, B q → A q) : vx_L C n d B U H := by
  obtain ⟨c, k, i, f, a, cell, h1, h2, h3, h4, h5, h6, h7, h8, h9, h10⟩ := h
  exact ⟨c, k, i, f, a, cell, h1, h2, h3, h4, h5, h6, h7, h8, h9, fun z => h10 (hAB _ z)⟩
theorem vx_L.word {C n d : String} {A : Nat → Prop} {s : State} {args : Array Value} (h : vx_L C n d A s s.heap) : (Cond.laysStatic C n d).before args s = true := by
  obtain ⟨c, k, i, f, a, cell, h1, h2, h3, h4, h5, h6, h7, h8, h9, -⟩ := h
  show (Cond.laysStatic C n d).holds args s none s [] = true
  exact Cond.laysStatic_of h1 h2 h3 h4 h5 h6 h7 h8 h9
/-- .. and what it holds: null or some reference -/
def vx_Zq (C n d : String) (A : Nat → Prop) (U : State) (H : Heap) : Prop := va_Zq C n d A U H ∧ vx_L C n d A U H
theorem vx_Zq.moved {C n d : String} {A : Nat → Prop} {u U : State} {H : Heap} (hvm : u.vm.Alike U.vm) (h : vx_Zq C n d A u H) : vx_Zq C n d A U H := ⟨va_Zq.moved hvm h.1, vx_L.moved hvm h.2⟩
theorem vx_Zq.kept {C n d : String} {A : Nat → Prop} {U : State} {H H1 : Heap} (h : vx_Zq C n d A U H) (hq : ∀ a : Nat, a < H.size → ¬ A a → H1[a]? = H[a]?) : vx_Zq C n d A U H1 := ⟨va_Zq.kept h.1 hq, vx_L.kept h.2 hq⟩
theorem vx_Zq.narrow {C n d : String} {A B : Nat → Prop} {U : State} {H : Heap} (h : vx_Zq C n d A U H) (hAB : ∀ q, B q → A q) : vx_Zq C n d B U H := ⟨va_Zq.narrow h.1 hAB, vx_L.narrow h.2 hAB⟩
theorem vx_Zqof {args : Array Value} {s : State} {C n d : String} {A : Nat → Prop} (hl : (Cond.laysStatic C n d).before args s = true) (hini : (Cond.initialized C).before args s = true) (h : (Cond.isRef (.static C n d)).before args s = true) (hA : ∀ a : Nat, a < s.heap.size → ¬ A a) : vx_Zq C n d A s s.heap := by
  refine ⟨va_Zqof hl hini h hA, ?_⟩
  obtain ⟨c, k, i, f, a, cell, h1, h2, h3, h4, h5, h6, h7, h8, h9⟩ := Cond.laysStatic_spec hl
  exact ⟨c, k, i, f, a, cell, h1, h2, h3, h4, h5, h6, h7, h8, h9, hA a (Array.getElem?_eq_some_iff.mp h5).1⟩
theorem vx_isRef {C n d : String} {v : Value} {A : Nat → Prop} {s : State} {args : Array Value} (h : va_Z C n d v A s s.heap) (hv : v.isRef = true) : (Cond.isRef (.static C n d)).before args s = true := by
  obtain ⟨cf, kf, fi, f, a, cell, h1, h2, h3, h4, h5, h6, h7, -⟩ := h
  have he : (Term.static C n d).eval args s none [] s = some v := by
    simp [Term.eval, State.fieldNamed?, h1, h2, h4, h5, h6, h7]
  simp only [Cond.before, Cond.holds, Cond.value, he]
  cases v <;> simp_all [Value.isRef]
theorem vx_isRefq {C n d : String} {A : Nat → Prop} {s : State} {args : Array Value} (h : va_Zq C n d A s s.heap) : (Cond.isRef (.static C n d)).before args s = true := by
  rcases h with h | ⟨t, h⟩
  · exact vx_isRef h rfl
  · exact vx_isRef h rfl
/-- the same frame, seen from here: as if the method were called anew in this heap -/
theorem vx_rebase {T : State} (X : Stand p l e R s m args below meth c T locs cells slots) {R' : Room} (hf : R'.frames ≤ R.frames) (hl : R'.locals ≤ R.locals) (hc : cells + R'.cells ≤ R.cells) (hs : slots + R'.slots ≤ R.slots) :
    Stand p l e R' ((T.setVm s.vm).setFrames (.invoking m args :: below)) m args below meth c T [] 0 0 := by
  have htop : (T.setVm s.vm).topJava?.isSome := X.here.top
  have hF : ((T.setVm s.vm).setFrames (.invoking m args :: below)).frames = .invoking m args :: below := State.frames_setFrames _ (State.cur_lt_of_top htop)
  obtain ⟨g₀, hg0⟩ := Option.isSome_iff_exists.mp htop
  obtain ⟨r, hr⟩ := State.topJava?_eq_some.mp hg0
  have hl9 : e.platform.stackLimits (T.setVm s.vm).me = e.platform.stackLimits s.me := X.limits
  have hb9 : (T.setVm s.vm).me.stackBytes = s.me.stackBytes := X.bytes
  refine ⟨X.admits, X.cas, X.clock, hF, ?_, X.hears, X.method, X.code, X.here, X.tail, X.warmed, ?_, ?_, ?_⟩
  · have h := X.room
    have hU : ((T.setVm s.vm).setFrames (.invoking m args :: below)).localsInUse = s.localsInUse := by
      rw [State.localsInUse_invoking hF (meth := meth) (c := c) X.method X.code, State.localsInUse_invoking X.frames X.method X.code]
    simp only [State.hasRoom, Bool.and_eq_true, decide_eq_true_eq] at h ⊢
    obtain ⟨⟨⟨⟨h1, h2, h3, h4, h5, h6⟩, h7⟩, h8⟩, h9⟩ := h
    rw [X.frames, List.length_cons] at h2 h3
    have q1 := X.heapSize
    have q2 := X.used
    simp only [hF, hU, List.length_cons, State.stackLimits_setFrames, State.stackBytes_setFrames, hl9, hb9]
    refine ⟨⟨⟨⟨by omega, by omega, by omega, by omega, by omega, h6⟩, ?_⟩, ?_⟩, X.book⟩
    · show T.heap.size + R'.cells ≤ e.platform.maxCells
      omega
    · show T.slotsUsed + R'.slots ≤ e.platform.maxSlots
      omega
  · rw [State.stackLimits_setFrames]; rfl
  · rw [State.stackBytes_setFrames]; rfl
  · refine ⟨?_, Nat.le_refl _, Nat.le_refl _, ?_, ?_, fun a c9 h9 => ⟨c9, h9, rfl, rfl, fun _ _ => rfl⟩⟩
    · obtain ⟨t, ht, -⟩ := State.frames_cons hr
      show T.setVm s.vm = { ((T.setVm s.vm).setFrames (.invoking m args :: below)).setFrames (T.setVm s.vm).frames with heap := T.heap, slotsUsed := T.slotsUsed }
      rw [State.setFrames_setFrames, State.setFrames_self ht]
      rfl
    · show T.slotsUsed = T.slotsUsed + ((T.heap.toList.drop T.heap.size).map (·.slots.size)).sum
      rw [List.drop_eq_nil_of_le (Nat.le_of_eq Array.length_toList)]
      rfl
    · show ((T.heap.toList.drop T.heap.size).map (·.slots.size)).sum ≤ 0
      rw [List.drop_eq_nil_of_le (Nat.le_of_eq Array.length_toList)]
      exact Nat.le_refl _
/-- 'throw new E()': new; dup; invokespecial; athrow -/
theorem vx_throw0 {cc : ByteArray} {pc : Nat} (hexec : p.tables.exec = Jvm.exec) (hb : c.code = cc) (hl : l.stackTraces = false) {own cls : String} {names : List String} {ik ic mc ms : Nat} {A : Nat → Prop}
    (hown : s.vm.findClass own = some m.cls) (hcls : Bundle.fit cls = true) (hnames : ∀ n ∈ names, Bundle.fit n = true)
    (hk : (Cond.classLink own ik cls).before args s = true) (hini : (Cond.initialized cls).before args s = true) (hat : ∀ w ∈ vx_at0 own ic cls names, w.before args s = true)
    (hgood : ∀ w ∈ Cond.classLink own ik cls :: Cond.initialized cls :: vx_at0 own ic cls names, vx_ot w = true)
    (hU : vx_Zq Bundle.tN "UNASSIGNED_STACK" Bundle.steD A s s.heap) (hN : vx_Zq Bundle.tN "SUPPRESSED_SENTINEL" Bundle.listD A s s.heap) (hS : va_S A s.heap H locs) (hsize : ls.size = c.maxLocals)
    (d0 : decode cc pc = .ok (.new ik, 3)) (d3 : decode cc (pc + 3) = .ok (.dup, 1)) (d4 : decode cc (pc + 4) = .ok (.invokespecial ic, 3)) (d7 : decode cc (pc + 7) = .ok (.athrow, 1))
    (hout : ∀ x ∈ c.exceptionTable.toList, covers x (pc + 7) = false)
    (hRframes : names.length + 3 < R.frames) (hRlocals : (rest.map fun v => v.category).sum + (13 * (names.length + 1) + 42) ≤ R.locals) (hRcells : cells + 1 ≤ R.cells) (hRslots : slots + 6 ≤ R.slots) (hlocks : meth.locks = false)
    (hx : ∀ t : State, s.vm.Alike t.vm → H.size ≤ t.heap.size → (∀ q : Nat, q < H.size → t.heap[q]? = H[q]?) → XC cls s t)
    (hf : ∀ z ∈ locs, free z.base) (hc : cells + 1 ≤ mc) (hs : slots + 6 ≤ ms) :
    W p l e R s m args below meth c H locs cells slots (vx_MQ below Qc XC args s mc ms free) (F0 m pc ls rest) := by
  intro T hT X
  have htr : e.platform.stackTraces = false := (show e.platform.stackTraces = l.stackTraces by rw [X.admits.platform]).trans hl
  have Y := vx_rebase X (R' := { frames := R.frames, locals := R.locals, cells := 1, slots := 6 }) (Nat.le_refl _) (Nat.le_refl _) hRcells hRslots
  obtain ⟨s', hA⟩ : ∃ z, z = (T.setVm s.vm).setFrames (.invoking m args :: below) := ⟨_, rfl⟩
  rw [← hA] at Y
  have hvm : s'.vm = s.vm := by rw [hA]; rfl
  have hhp : s'.heap = H := by rw [hA]; exact hT
  have hW0 : s.WarmedH s'.vm := by rw [hvm]; exact State.WarmedH.refl s
  have hat' : ∀ w ∈ vx_at0 own ic cls names, w.before args s' = true := fun w hw => vx_ot_at hW0 hvm.symm (hgood w (List.mem_cons_of_mem _ (List.mem_cons_of_mem _ hw))) (hat w hw)
  have hk' : (Cond.classLink own ik cls).before args s' = true := vx_ot_at hW0 hvm.symm (hgood _ List.mem_cons_self) hk
  have hini' : (Cond.initialized cls).before args s' = true := vx_ot_at hW0 hvm.symm (hgood _ (List.mem_cons_of_mem _ List.mem_cons_self)) hini
  have hU' : vx_Zq Bundle.tN "UNASSIGNED_STACK" Bundle.steD A s' s'.heap := by rw [hhp]; exact vx_Zq.moved hW0.alike (hU.kept hS.2.1)
  have hN' : vx_Zq Bundle.tN "SUPPRESSED_SENTINEL" Bundle.listD A s' s'.heap := by rw [hhp]; exact vx_Zq.moved hW0.alike (hN.kept hS.2.1)
  have h : ∀ w ∈ Bundle.ownAtoms0 own ic cls names, w.before args s' = true := vx_own hat' (vx_isRefq hU'.1) (vx_isRefq hN'.1) hU'.2.word hN'.2.word
  have hown' : s'.vm.findClass own = some m.cls := by rw [hvm]; exact hown
  have hins : (Cond.instantiable cls 6).before args s' = true := h _ (by simp [Bundle.ownAtoms0])
  obtain ⟨vm₁, cX, kX, hfX, hkX, -, -, X₁, st1⟩ := Y.newCold hexec (own := own) (C := cls) (index := ik) (n := 6) hown' hk' hins hini'
    (g := F0 m pc ls rest) rfl (by rw [hb]; exact d0) (Nat.le_refl _) (Nat.le_refl _)
  generalize hT1 : (T.setVm vm₁).pushCell { cls := cX, slots := kX.instanceTypes.map defaultValue, vm := .none } = T1 at X₁ st1
  have hcat : (Value.ref T.heap.size).category = 1 := rfl
  have hcellA : T1.heap[T.heap.size]? = some (freshCell cX kX) := by rw [← hT1]; exact State.heap_pushCell_size _ _
  have d3' : decode c.code (pc + 3) = .ok (.dup, 1) := by rw [hb]; exact d3
  obtain ⟨U, hsteps, hrun, hend, hW, hsame, ce, hce, hO⟩ := X₁.ctorThrow0 hexec htr (own := own) (cls := cls) (names := names) (ic := ic) hown' hcls hnames h (fun x hx => nomatch hx) hfX hkX hcellA (by rw [hhp, hT]; exact Nat.le_refl _)
    (g := { method := m, pc := pc + 4, locals := ls, stack := .ref T.heap.size :: .ref T.heap.size :: rest, locked := none }) rfl hsize rfl rfl (rest := rest) rfl
    (by rw [hb]; exact d4) (by rw [hb]; exact d7) hout hRframes (by simp only [List.map_cons, List.sum_cons, hcat]; omega) hlocks
  obtain ⟨f1, f2⟩ := vx_frame hsame
  rw [hhp] at f1 f2
  have hWs : s.WarmedH U.vm := State.WarmedH.trans hW0 hW
  have hcl : s.vm.findClass cls = some ce.cls := by
    have h9 := hO.cls
    rw [hvm] at h9
    exact h9
  have hall : s.sameButNew ({ U with vm := s.vm } : State) locs mc ms := by
    subst hA
    obtain ⟨e1, e2⟩ := hsame
    rw [State.setFrames_setFrames] at e1
    have h2 : (T.setVm s.vm).sameButNew ({ U with vm := s.vm } : State) [] (0 + 1) (0 + 6) := ⟨e1, e2⟩
    have h3 := X.same.trans h2
    rw [List.append_nil] at h3
    exact h3.mono hc hs
  refine ⟨U, ?_, .threw T.heap.size, hrun, hend, Or.inr ⟨T.heap.size, rfl, cls, ce, locs, hx U hWs.alike f1 (fun q hq => f2 q hq (fun z hz => nomatch hz)), hce, hO.vm, hcl, hWs, hall, hf⟩⟩
  refine st1 _ ?_
  show Steps p.tables e below (T1.setTop { method := m, pc := pc + 3, locals := ls, stack := .ref T.heap.size :: rest, locked := none }) _
  jvm_step X₁.here [X₁.here.top, hexec, d3', Value.category]
  exact hsteps
/-- 'throw new E("text")': new; dup; ldc; invokespecial; athrow -/
theorem vx_throwS {cc : ByteArray} {pc : Nat} (hexec : p.tables.exec = Jvm.exec) (hb : c.code = cc) (hl : l.stackTraces = false) {own cls text : String} {names : List String} {ik is ic mc ms sa : Nat} {A : Nat → Prop}
    (hown : s.vm.findClass own = some m.cls) (hcls : Bundle.fit cls = true) (hnames : ∀ n ∈ names, Bundle.fit n = true)
    (hk : (Cond.classLink own ik cls).before args s = true) (hini : (Cond.initialized cls).before args s = true) (hstr : vk_R own is text sa s) (hat : ∀ w ∈ vx_atS own ic cls names, w.before args s = true)
    (hgood : ∀ w ∈ Cond.classLink own ik cls :: Cond.initialized cls :: vx_atS own ic cls names, vx_ot w = true)
    (hU : vx_Zq Bundle.tN "UNASSIGNED_STACK" Bundle.steD A s s.heap) (hN : vx_Zq Bundle.tN "SUPPRESSED_SENTINEL" Bundle.listD A s s.heap) (hS : va_S A s.heap H locs) (hsize : ls.size = c.maxLocals)
    (d0 : decode cc pc = .ok (.new ik, 3)) (d3 : decode cc (pc + 3) = .ok (.dup, 1)) (d4 : decode cc (pc + 4) = .ok (.ldc is, 2)) (d6 : decode cc (pc + 6) = .ok (.invokespecial ic, 3)) (d9 : decode cc (pc + 9) = .ok (.athrow, 1))
    (hout : ∀ x ∈ c.exceptionTable.toList, covers x (pc + 9) = false)
    (hRframes : names.length + 3 < R.frames) (hRlocals : (rest.map fun v => v.category).sum + (13 * (names.length + 1) + 43) ≤ R.locals) (hRcells : cells + 1 ≤ R.cells) (hRslots : slots + 6 ≤ R.slots) (hlocks : meth.locks = false)
    (hx : ∀ t : State, s.vm.Alike t.vm → H.size ≤ t.heap.size → (∀ q : Nat, q < H.size → t.heap[q]? = H[q]?) → XC cls s t)
    (hf : ∀ z ∈ locs, free z.base) (hc : cells + 1 ≤ mc) (hs : slots + 6 ≤ ms) :
    W p l e R s m args below meth c H locs cells slots (vx_MQ below Qc XC args s mc ms free) (F0 m pc ls rest) := by
  intro T hT X
  have htr : e.platform.stackTraces = false := (show e.platform.stackTraces = l.stackTraces by rw [X.admits.platform]).trans hl
  have Y := vx_rebase X (R' := { frames := R.frames, locals := R.locals, cells := 1, slots := 6 }) (Nat.le_refl _) (Nat.le_refl _) hRcells hRslots
  obtain ⟨s', hA⟩ : ∃ z, z = (T.setVm s.vm).setFrames (.invoking m args :: below) := ⟨_, rfl⟩
  rw [← hA] at Y
  have hvm : s'.vm = s.vm := by rw [hA]; rfl
  have hhp : s'.heap = H := by rw [hA]; exact hT
  have hW0 : s.WarmedH s'.vm := by rw [hvm]; exact State.WarmedH.refl s
  have hat' : ∀ w ∈ vx_atS own ic cls names, w.before args s' = true := fun w hw => vx_ot_at hW0 hvm.symm (hgood w (List.mem_cons_of_mem _ (List.mem_cons_of_mem _ hw))) (hat w hw)
  have hk' : (Cond.classLink own ik cls).before args s' = true := vx_ot_at hW0 hvm.symm (hgood _ List.mem_cons_self) hk
  have hini' : (Cond.initialized cls).before args s' = true := vx_ot_at hW0 hvm.symm (hgood _ (List.mem_cons_of_mem _ List.mem_cons_self)) hini
  have hU' : vx_Zq Bundle.tN "UNASSIGNED_STACK" Bundle.steD A s' s'.heap := by rw [hhp]; exact vx_Zq.moved hW0.alike (hU.kept hS.2.1)
  have hN' : vx_Zq Bundle.tN "SUPPRESSED_SENTINEL" Bundle.listD A s' s'.heap := by rw [hhp]; exact vx_Zq.moved hW0.alike (hN.kept hS.2.1)
  have h : ∀ w ∈ Bundle.ownAtoms own ic cls names, w.before args s' = true := vx_own hat' (vx_isRefq hU'.1) (vx_isRefq hN'.1) hU'.2.word hN'.2.word
  have hown' : s'.vm.findClass own = some m.cls := by rw [hvm]; exact hown
  have hins : (Cond.instantiable cls 6).before args s' = true := h _ (by simp [Bundle.ownAtoms])
  obtain ⟨vm₁, cX, kX, hfX, hkX, -, -, X₁, st1⟩ := Y.newCold hexec (own := own) (C := cls) (index := ik) (n := 6) hown' hk' hins hini'
    (g := F0 m pc ls rest) rfl (by rw [hb]; exact d0) (Nat.le_refl _) (Nat.le_refl _)
  generalize hT1 : (T.setVm vm₁).pushCell { cls := cX, slots := kX.instanceTypes.map defaultValue, vm := .none } = T1 at X₁ st1
  have hcat : (Value.ref T.heap.size).category = 1 := rfl
  have hcellA : T1.heap[T.heap.size]? = some (freshCell cX kX) := by rw [← hT1]; exact State.heap_pushCell_size _ _
  have d3' : decode c.code (pc + 3) = .ok (.dup, 1) := by rw [hb]; exact d3
  have d4' : decode c.code (pc + 4) = .ok (.ldc is, 2) := by rw [hb]; exact d4
  have hstr' : vk_R own is text sa s' := vk_R.warm hW0 hstr
  obtain ⟨U, hsteps, hrun, hend, hW, hsame, ce, hce, hO⟩ := X₁.ctorThrowS hexec htr (own := own) (cls := cls) (names := names) (ic := ic) hown' hcls hnames h (fun x hx => nomatch hx) hfX hkX hcellA (by rw [hhp, hT]; exact Nat.le_refl _) (msg := .ref sa) rfl
    (g := { method := m, pc := pc + 6, locals := ls, stack := .ref sa :: .ref T.heap.size :: .ref T.heap.size :: rest, locked := none }) rfl hsize rfl rfl (rest := rest) rfl
    (by rw [hb]; exact d6) (by rw [hb]; exact d9) hout hRframes (by simp only [List.map_cons, List.sum_cons, hcat]; omega) hlocks
  obtain ⟨f1, f2⟩ := vx_frame hsame
  rw [hhp] at f1 f2
  have hWs : s.WarmedH U.vm := State.WarmedH.trans hW0 hW
  have hcl : s.vm.findClass cls = some ce.cls := by
    have h9 := hO.cls
    rw [hvm] at h9
    exact h9
  have hall : s.sameButNew ({ U with vm := s.vm } : State) locs mc ms := by
    subst hA
    obtain ⟨e1, e2⟩ := hsame
    rw [State.setFrames_setFrames] at e1
    have h2 : (T.setVm s.vm).sameButNew ({ U with vm := s.vm } : State) [] (0 + 1) (0 + 6) := ⟨e1, e2⟩
    have h3 := X.same.trans h2
    rw [List.append_nil] at h3
    exact h3.mono hc hs
  refine ⟨U, ?_, .threw T.heap.size, hrun, hend, Or.inr ⟨T.heap.size, rfl, cls, ce, locs, hx U hWs.alike f1 (fun q hq => f2 q hq (fun z hz => nomatch hz)), hce, hO.vm, hcl, hWs, hall, hf⟩⟩
  refine st1 _ ?_
  show Steps p.tables e below (T1.setTop { method := m, pc := pc + 3, locals := ls, stack := .ref T.heap.size :: rest, locked := none }) _
  jvm_step X₁.here [X₁.here.top, hexec, d3', Value.category]
  exact X₁.ldcString hexec (own := own) (text := text) (index := is) (a := sa) hown' hstr'.1 hstr'.2
    (g := { method := m, pc := pc + 4, locals := ls, stack := .ref T.heap.size :: .ref T.heap.size :: rest, locked := none }) rfl d4' _ hsteps
/-- 'throw new E("text")', the text by a wide index -/
theorem vx_throwSW {cc : ByteArray} {pc : Nat} (hexec : p.tables.exec = Jvm.exec) (hb : c.code = cc) (hl : l.stackTraces = false) {own cls text : String} {names : List String} {ik is ic mc ms sa : Nat} {A : Nat → Prop}
    (hown : s.vm.findClass own = some m.cls) (hcls : Bundle.fit cls = true) (hnames : ∀ n ∈ names, Bundle.fit n = true)
    (hk : (Cond.classLink own ik cls).before args s = true) (hini : (Cond.initialized cls).before args s = true) (hstr : vk_R own is text sa s) (hat : ∀ w ∈ vx_atS own ic cls names, w.before args s = true)
    (hgood : ∀ w ∈ Cond.classLink own ik cls :: Cond.initialized cls :: vx_atS own ic cls names, vx_ot w = true)
    (hU : vx_Zq Bundle.tN "UNASSIGNED_STACK" Bundle.steD A s s.heap) (hN : vx_Zq Bundle.tN "SUPPRESSED_SENTINEL" Bundle.listD A s s.heap) (hS : va_S A s.heap H locs) (hsize : ls.size = c.maxLocals)
    (d0 : decode cc pc = .ok (.new ik, 3)) (d3 : decode cc (pc + 3) = .ok (.dup, 1)) (d4 : decode cc (pc + 4) = .ok (.ldc_w is, 3)) (d7 : decode cc (pc + 7) = .ok (.invokespecial ic, 3)) (d10 : decode cc (pc + 10) = .ok (.athrow, 1))
    (hout : ∀ x ∈ c.exceptionTable.toList, covers x (pc + 10) = false)
    (hRframes : names.length + 3 < R.frames) (hRlocals : (rest.map fun v => v.category).sum + (13 * (names.length + 1) + 43) ≤ R.locals) (hRcells : cells + 1 ≤ R.cells) (hRslots : slots + 6 ≤ R.slots) (hlocks : meth.locks = false)
    (hx : ∀ t : State, s.vm.Alike t.vm → H.size ≤ t.heap.size → (∀ q : Nat, q < H.size → t.heap[q]? = H[q]?) → XC cls s t)
    (hf : ∀ z ∈ locs, free z.base) (hc : cells + 1 ≤ mc) (hs : slots + 6 ≤ ms) :
    W p l e R s m args below meth c H locs cells slots (vx_MQ below Qc XC args s mc ms free) (F0 m pc ls rest) := by
  intro T hT X
  have htr : e.platform.stackTraces = false := (show e.platform.stackTraces = l.stackTraces by rw [X.admits.platform]).trans hl
  have Y := vx_rebase X (R' := { frames := R.frames, locals := R.locals, cells := 1, slots := 6 }) (Nat.le_refl _) (Nat.le_refl _) hRcells hRslots
  obtain ⟨s', hA⟩ : ∃ z, z = (T.setVm s.vm).setFrames (.invoking m args :: below) := ⟨_, rfl⟩
  rw [← hA] at Y
  have hvm : s'.vm = s.vm := by rw [hA]; rfl
  have hhp : s'.heap = H := by rw [hA]; exact hT
  have hW0 : s.WarmedH s'.vm := by rw [hvm]; exact State.WarmedH.refl s
  have hat' : ∀ w ∈ vx_atS own ic cls names, w.before args s' = true := fun w hw => vx_ot_at hW0 hvm.symm (hgood w (List.mem_cons_of_mem _ (List.mem_cons_of_mem _ hw))) (hat w hw)
  have hk' : (Cond.classLink own ik cls).before args s' = true := vx_ot_at hW0 hvm.symm (hgood _ List.mem_cons_self) hk
  have hini' : (Cond.initialized cls).before args s' = true := vx_ot_at hW0 hvm.symm (hgood _ (List.mem_cons_of_mem _ List.mem_cons_self)) hini
  have hU' : vx_Zq Bundle.tN "UNASSIGNED_STACK" Bundle.steD A s' s'.heap := by rw [hhp]; exact vx_Zq.moved hW0.alike (hU.kept hS.2.1)
  have hN' : vx_Zq Bundle.tN "SUPPRESSED_SENTINEL" Bundle.listD A s' s'.heap := by rw [hhp]; exact vx_Zq.moved hW0.alike (hN.kept hS.2.1)
  have h : ∀ w ∈ Bundle.ownAtoms own ic cls names, w.before args s' = true := vx_own hat' (vx_isRefq hU'.1) (vx_isRefq hN'.1) hU'.2.word hN'.2.word
  have hown' : s'.vm.findClass own = some m.cls := by rw [hvm]; exact hown
  have hins : (Cond.instantiable cls 6).before args s' = true := h _ (by simp [Bundle.ownAtoms])
  obtain ⟨vm₁, cX, kX, hfX, hkX, -, -, X₁, st1⟩ := Y.newCold hexec (own := own) (C := cls) (index := ik) (n := 6) hown' hk' hins hini'
    (g := F0 m pc ls rest) rfl (by rw [hb]; exact d0) (Nat.le_refl _) (Nat.le_refl _)
  generalize hT1 : (T.setVm vm₁).pushCell { cls := cX, slots := kX.instanceTypes.map defaultValue, vm := .none } = T1 at X₁ st1
  have hcat : (Value.ref T.heap.size).category = 1 := rfl
  have hcellA : T1.heap[T.heap.size]? = some (freshCell cX kX) := by rw [← hT1]; exact State.heap_pushCell_size _ _
  have d3' : decode c.code (pc + 3) = .ok (.dup, 1) := by rw [hb]; exact d3
  have d4' : decode c.code (pc + 4) = .ok (.ldc_w is, 3) := by rw [hb]; exact d4
  have hstr' : vk_R own is text sa s' := vk_R.warm hW0 hstr
  obtain ⟨U, hsteps, hrun, hend, hW, hsame, ce, hce, hO⟩ := X₁.ctorThrowS hexec htr (own := own) (cls := cls) (names := names) (ic := ic) hown' hcls hnames h (fun x hx => nomatch hx) hfX hkX hcellA (by rw [hhp, hT]; exact Nat.le_refl _) (msg := .ref sa) rfl
    (g := { method := m, pc := pc + 7, locals := ls, stack := .ref sa :: .ref T.heap.size :: .ref T.heap.size :: rest, locked := none }) rfl hsize rfl rfl (rest := rest) rfl
    (by rw [hb]; exact d7) (by rw [hb]; exact d10) hout hRframes (by simp only [List.map_cons, List.sum_cons, hcat]; omega) hlocks
  obtain ⟨f1, f2⟩ := vx_frame hsame
  rw [hhp] at f1 f2
  have hWs : s.WarmedH U.vm := State.WarmedH.trans hW0 hW
  have hcl : s.vm.findClass cls = some ce.cls := by
    have h9 := hO.cls
    rw [hvm] at h9
    exact h9
  have hall : s.sameButNew ({ U with vm := s.vm } : State) locs mc ms := by
    subst hA
    obtain ⟨e1, e2⟩ := hsame
    rw [State.setFrames_setFrames] at e1
    have h2 : (T.setVm s.vm).sameButNew ({ U with vm := s.vm } : State) [] (0 + 1) (0 + 6) := ⟨e1, e2⟩
    have h3 := X.same.trans h2
    rw [List.append_nil] at h3
    exact h3.mono hc hs
  refine ⟨U, ?_, .threw T.heap.size, hrun, hend, Or.inr ⟨T.heap.size, rfl, cls, ce, locs, hx U hWs.alike f1 (fun q hq => f2 q hq (fun z hz => nomatch hz)), hce, hO.vm, hcl, hWs, hall, hf⟩⟩
  refine st1 _ ?_
  show Steps p.tables e below (T1.setTop { method := m, pc := pc + 3, locals := ls, stack := .ref T.heap.size :: rest, locked := none }) _
  jvm_step X₁.here [X₁.here.top, hexec, d3', Value.category]
  exact X₁.ldcStringW hexec (own := own) (text := text) (index := is) (a := sa) hown' hstr'.1 hstr'.2
    (g := { method := m, pc := pc + 4, locals := ls, stack := .ref T.heap.size :: .ref T.heap.size :: rest, locked := none }) rfl d4' _ hsteps
end Ends
section Bodies
variable {l : Launch}
theorem vx_ofW {y : MethodName} {ws ws' : List Cond} {rm : Room} {Pc : Array Value → State → Prop} {Qc : Array Value → State → Outcome → State → Prop} {XC : String → State → State → Prop} {mc ms : Nat} {free : Addr → Prop} {cc : ByteArray} {maxL : Nat} {ret : Option FieldType}
    (hy : plainName y.cls = true) (hw : ws = Cond.code y cc maxL ret :: ws')
    (body : ∀ p e s m args below meth c s₁, BodyLoose p l y (headSpec ws rm) cc maxL ret e s m args below meth c s₁ → c.maxLocals = maxL → (∀ x ∈ c.exceptionTable.toList, False) → Pc args s →
      W p l e (headSpec ws rm).room s m args below meth c s.heap [] 0 0 (vx_MQ below Qc XC args s mc ms free) (entryFrame m args maxL)) : vx_Met l y ws rm Pc Qc XC mc ms free := by
  refine MetFree.of_bodyS (code := cc) (maxLocals := maxL) (ret := ret) hy ?_ ?_
  · intro args s m h hn
    obtain ⟨meth, c, h1, h2, h3, h4, h5, h6, -, -⟩ := Cond.code_spec hn (atoms_spec (ws := ws) h _ (by rw [hw]; exact List.mem_cons_self))
    exact ⟨meth, c, h1, h2, h3, h4, h5, h6⟩
  · intro p e s m args below meth c s₁ B hml hP _
    have hh0 : s₁.heap = s.heap := by rw [B.state]; rfl
    have ht : ∀ x ∈ c.exceptionTable.toList, False := by
      obtain ⟨meth9, c9, h1, h2, -, -, -, -, h7, -⟩ := Cond.code_spec B.named (atoms_spec (ws := ws) B.pre _ (by rw [hw]; exact List.mem_cons_self))
      cases Option.some.inj (h1.symm.trans B.method)
      cases Option.some.inj (h2.symm.trans (Stand.of_body B).code)
      intro x hx
      rw [Array.isEmpty_iff.mp h7] at hx
      cases hx
    obtain ⟨t, a1, o, b1, b2, b3⟩ := body p e s m args below meth c s₁ B hml ht hP s₁ hh0 (Stand.of_body B)
    exact ⟨t, o, a1, b1, b2, b3⟩
/-- the table of a body with handlers -/
theorem vx_table {p : Program} {x y : MethodName} {S : Spec} {cc bytes : ByteArray} {maxL maxL' : Nat} {ret ret' : Option FieldType} {e : Env} {s s₁ : State} {m : MethodId} {args : Array Value} {below : List Frame} {meth : Method} {c : Code} {hh : List (Nat × Nat × Nat × Nat)}
    (B : BodyLoose p l y S cc maxL ret e s m args below meth c s₁) (h : (Cond.codeWith y bytes maxL' ret' hh).before args s = true) : c.exceptionTable.toList = tableOf hh := by
  obtain ⟨m9, meth9, c9, hn9, h1, h2, -, -, h6, -⟩ := Cond.codeWith_spec h
  cases Option.some.inj (hn9.symm.trans B.named)
  cases Option.some.inj (h1.symm.trans B.method)
  cases Option.some.inj (h2.symm.trans (Stand.of_body B).code)
  rw [← h6, table_eq]
end Bodies
end VXA
/-! ===== END ===== -/
/-! ===== BEGIN a static call of a method with an exception table ===== -/
section VXS
variable {p : Program} {l : Launch} {e : Env} {R : Room} {s : State} {m : MethodId} {args : Array Value} {below : List Frame} {meth : Method} {c : Code} {T : State} {H : Heap} {locs : List Loc} {cells slots : Nat}
abbrev vx_CSW (R : Room) (s : State) (args : Array Value) (own : String) (index : Nat) (y : MethodName) (bytes : ByteArray) (maxL : Nat) (ret : Option FieldType) (hh : List (Nat × Nat × Nat × Nat)) (ws : List Cond) (rm : Room) (mc ms n : Nat) : Prop :=
  (rm.cells = mc ∧ rm.slots = ms ∧ rm.frames + 1 ≤ R.frames ∧ 8 + (maxL + 11) + rm.locals ≤ R.locals ∧ (∀ w ∈ ws, ∀ (a' : Array Value) (U : State), s.WarmedH U.vm → w.before a' U = true) ∧ Cond.codeWith y bytes maxL ret hh ∈ ws) ∧
  (Cond.codeWith y bytes maxL ret hh).before args s = true ∧ (Cond.initialized y.cls).before args s = true ∧ (y.cls ≠ "java/lang/invoke/MethodHandle" ∧ y.cls ≠ "java/lang/invoke/VarHandle") ∧
  (∀ sig, parseMethodDescriptor y.desc = some sig → n = sig.parameters.length) ∧ (Cond.methodLink own index y).before args s = true ∧ (Cond.static y).before args s = true
theorem vx_cwSW {own : String} {index maxL mc ms : Nat} {y : MethodName} {bytes : ByteArray} {ret : Option FieldType} {hh : List (Nat × Nat × Nat × Nat)} {Ts ws ws' : List Cond} {rm : Room} (n : Nat) (ht : ∀ w ∈ Ts, w.before args s = true) (hT : GoodIn Ts (va_wsS own index y ws)) (hw : ws = Cond.codeWith y bytes maxL ret hh :: ws') (hrc : rm.cells = mc) (hrs : rm.slots = ms)
    (hd : y.cls ≠ "java/lang/invoke/MethodHandle" ∧ y.cls ≠ "java/lang/invoke/VarHandle" ∧ (parseMethodDescriptor y.desc).map (fun d => d.parameters.length) = some n) (hR : rm.frames + 1 ≤ R.frames ∧ 8 + (maxL + 11) + rm.locals ≤ R.locals) :
    vx_CSW R s args own index y bytes maxL ret hh ws rm mc ms n := by
  have ok : ∀ w ∈ va_wsS own index y ws, w.before args s = true := fun w h => ht w (hT w h).1
  have hG : GoodIn Ts ws := fun w h => hT w (by unfold va_wsS; exact List.mem_append_right _ h)
  have hc : Cond.codeWith y bytes maxL ret hh ∈ ws := by rw [hw]; exact List.mem_cons_self
  refine ⟨⟨hrc, hrs, hR.1, hR.2, pay_in ht hG, hc⟩, ht _ (hG _ hc).1, ok _ (by simp [va_wsS]), ⟨hd.1, hd.2.1⟩, fun sig h => ?_, ok _ (by simp [va_wsS]), ok _ (by simp [va_wsS])⟩
  have h2 := hd.2.2
  rw [h] at h2
  exact (Option.some.inj h2).symm
theorem vx_callSW (X : Stand p l e R s m args below meth c T locs cells slots) (hexec : p.tables.exec = Jvm.exec) {own : String} {index : Nat} {y : MethodName} {bytes : ByteArray} {maxL : Nat} {ret : Option FieldType} {hh : List (Nat × Nat × Nat × Nat)}
    (hown : s.vm.findClass own = some m.cls) (hlink : (Cond.methodLink own index y).before args s = true) (hstat : (Cond.static y).before args s = true) (hinit : (Cond.initialized y.cls).before args s = true)
    (hcode : (Cond.codeWith y bytes maxL ret hh).before args s = true) (hy : y.cls ≠ "java/lang/invoke/MethodHandle" ∧ y.cls ≠ "java/lang/invoke/VarHandle")
    {W9 : Nat} {Pre : Pt → Array Value → Prop} {Post : Pt → Array Value → Option Value → Pt → Prop} (hK : Back l R p e below s args y 3 W9 Pre Post)
    {g : JFrame} (hg : g.method = m) (hsize : g.locals.size = c.maxLocals) {argsL rest : List Value} (hlen : ∀ sig, parseMethodDescriptor y.desc = some sig → argsL.length = sig.parameters.length)
    (hstack : g.stack = argsL.reverse ++ rest) (hW : 2 * g.monitorRoom + (rest.map fun v => v.category).sum ≤ W9) (hdg : decode c.code g.pc = .ok (.invokestatic index, 3))
    (hpre : ∀ vm₁, s.WarmedH vm₁ → Pre ⟨T.setVm vm₁, locs, cells, slots⟩ argsL.toArray) :
    ∃ (v : Option Value) (vm₁ : Vm) (B : Pt), s.WarmedH vm₁ ∧ Stand p l e R s m args below meth c B.U B.locs B.cells B.slots ∧ Post ⟨T.setVm vm₁, locs, cells, slots⟩ argsL.toArray v B ∧
      ∀ target, Steps p.tables e below (B.U.setTop { g with pc := g.pc + 3, stack := v.toList ++ rest }) target → Steps p.tables e below (T.setTop g) target := by
  obtain ⟨mk, methM, cM, hnamed, hmethM, -, -, -, -, -, -, hsigM⟩ := Cond.codeWith_spec hcode
  have hstatic : methM.isStatic = true := Cond.static_spec hnamed hmethM hstat
  obtain ⟨kP, hkP, -⟩ := className_of_methodNamed hnamed
  have hinitP : kP.init = .initialized := Cond.initialized_spec (findClass_of_methodNamed hnamed) hkP hinit
  obtain ⟨vm₁, X₁, hstep₁⟩ := X.invokestatic hexec hown hlink hnamed hmethM hstatic hkP hinitP hy (g := g) hg (argsL := argsL) (rest := rest) (hlen _ hsigM) hstack hdg
  obtain ⟨v, B, X', hpost, hsteps⟩ := hK m meth c ⟨T.setVm vm₁, locs, cells, slots⟩ { g with stack := rest } (.invokestatic index) mk argsL.toArray X₁ hg hsize hdg hW (X₁.named hnamed) (hpre vm₁ X₁.warmed)
  exact ⟨v, vm₁, B, X₁.warmed, X', hpost, fun target h => hstep₁ _ fun acts => by rw [doInvoke_state]; exact hsteps.trans h⟩
theorem vx_runSW {y : MethodName} {bytes cc : ByteArray} {maxL nL mc ms n index : Nat} {ret : Option FieldType} {hh : List (Nat × Nat × Nat × Nat)} {ws : List Cond} {rm : Room} {Pc : Array Value → State → Prop} {Qc : Array Value → State → Outcome → State → Prop} {free : Addr → Prop} {Ts : List Cond} {own : String} {As rest : List Value} {g : JFrame}
    (S : CallFix p m c cc nL s args Ts own) (hM : Met l y ws rm Pc Qc mc ms free) (cw : vx_CSW R s args own index y bytes maxL ret hh ws rm mc ms n) (hp : PreS s H Pc As)
    (hg : g.method = m) (hn : As.length = n) (hsize : g.locals.size = nL) (hstack : g.stack = As.reverse ++ rest) (hW : 2 * g.monitorRoom + (rest.map fun v => v.category).sum ≤ 8) (hdg : decode cc g.pc = .ok (.invokestatic index, 3)) (hf : cells + mc ≤ R.cells ∧ slots + ms ≤ R.slots) :
    va_Run p l e R s m args below meth c H locs cells slots mc ms g rest (Qc As.toArray) (free) := by
  obtain ⟨⟨hrc, hrs, hfr, hlo, hws, hcw⟩, hcode, hini, hy, hlen, hl, hstt⟩ := cw
  have hK : Back l R p e below s args y 3 8 (PreOf R mc ms Pc) (PostOf Qc mc ms free) := va_backW (hh := hh) (bytes := bytes) (maxL := maxL) (ret := ret) hM hp.1 hrc hrs hfr hlo hws hcw (fun a' U hW => word_at hW (Or.inl (by first | rfl | simp [Cond.onTables, Cond.keeps, Cond.steady])) hini)
  obtain ⟨hx, hb, hml, ho, -⟩ := S
  intro T hT X
  obtain ⟨v, vm₁, ⟨U', l2, c2, s2⟩, hW₁, X', ⟨g', mk, t, L, e1, e2, hq, h1, hL, h2, h3⟩, st⟩ := vx_callSW X hx (hh := hh) (bytes := bytes) (maxL := maxL) (ret := ret) ho hl hstt hini hcode hy hK hg (hsize.trans hml.symm) (argsL := As) (rest := rest) (fun sig h => hn.trans (hlen sig h)) hstack hW (by rw [hb]; exact hdg)
    (fun vm₁ hW₁ => ⟨hf.1, hf.2, hp.2 (T.setVm vm₁) hT hW₁⟩)
  dsimp only [Pt.U, Pt.locs, Pt.cells, Pt.slots] at X' e1 e2 h1 h2 h3 st
  subst h1; subst h2; subst h3
  exact ⟨v, (T.setVm vm₁).calling g' mk As.toArray, t, U', L, hT, X', hL, e1, e2, hq, st⟩
/-- not caught here, past rows that name other classes: it goes on to the caller -/
theorem vx_outP {p : Program} {l : Launch} {e : Env} {R : Room} {s : State} {m : MethodId} {args : Array Value} {below : List Frame} {meth : Method} {c : Code} {H : Heap} {locs : List Loc} {cells slots : Nat} {free : Addr → Prop} {ls : Array Slot} {rest : List Value} {Qc : Array Value → State → Outcome → State → Prop} {XC : String → State → State → Prop}
    {pc : Nat} {own E : String} {ce : Cell} {q : Addr} {mc ms : Nat} (hown : s.vm.findClass own = some m.cls) (hlocks : meth.locks = false)
    (hpass : ∀ z ∈ c.exceptionTable.toList, covers z pc = false ∨ (z.catchType ≠ 0 ∧ ∃ nm : String, (Cond.classLink own z.catchType nm).before args s = true ∧ va_Nc E nm s)) (hcell : H[q]? = some ce) (hv : ce.vm = .none) (hcl : s.vm.findClass E = some ce.cls)
    (hx : ∀ t : State, t.heap = H → s.vm.Alike t.vm → XC E s t) (hf : ∀ z ∈ locs, free z.base) (hc : cells ≤ mc) (hs : slots ≤ ms) :
    vx_W p l e R s m args below meth c H locs cells slots (vx_MQ below Qc XC args s mc ms free) (F0 m pc ls rest) q := by
  intro T hT X
  have hpl : e.platform.magicAccessors = ({} : Platform).magicAccessors := by rw [X.admits.platform]
  obtain ⟨vm', hW', X', st⟩ := X.outThrough hlocks q (g := F0 m pc ls rest) rfl rfl rfl (cell := ce) (by rw [hT]; exact hcell) (by rw [hv]; rfl)
    (by obtain ⟨k9, h9, -⟩ := Vm.findClass_spec hcl; exact ⟨k9, h9⟩) (fun z hz => by
      rcases hpass z hz with h | ⟨hz0, nm, hl1, hn1⟩
      · exact Or.inl h
      · obtain ⟨c6, hc6, hcl6⟩ := Cond.classLink_spec hown hl1 e.platform hpl
        obtain ⟨a8, b8, h1, h2, h3⟩ := hn1
        cases Option.some.inj (h1.symm.trans hcl)
        cases Option.some.inj (h2.symm.trans hc6)
        exact Or.inr ⟨hz0, _, hcl6, h3⟩)
  obtain ⟨g₀, hfr⟩ := X'.frames_eq
  have hcell9 : ((T.setVm vm').setFrames (.throwing q :: below)).heap[q]? = some ce := by
    show T.heap[q]? = some ce
    rw [hT]; exact hcell
  have hend : Ended ((T.setVm vm').setFrames (.throwing q :: below)) below (.threw q) := State.frames_setFrames _ (State.cur_lt_of_frames hfr)
  refine ⟨(T.setVm vm').setFrames (.throwing q :: below), ?_, .threw q, X'.here.running, hend, Or.inr ⟨q, rfl, E, ce, locs, hx _ hT (X'.ends _).1.alike, hcell9, hv, hcl, (X'.ends _).1, (X'.ends _).2.mono hc hs, hf⟩⟩
  rw [X.pushThrowing_eq]
  exact st
/-- a thing of a world lies in the heap -/
theorem vx_lt {D : va_G} {cl : List vw_C} {ws : va_W} {H1 : Heap} (h : va_P D cl ws H1) {k : Nat} {q : Nat × va_E} (hk : ws[k]? = some q) : q.1 < H1.size := (h k q hk).lt
end VXS
/-! ===== END ===== -/
/-! ===== BEGIN methods with a table of their own: called by a name, returning or throwing ===== -/
section VXH
/-! vx_backW, vx_callVX, vx_callSX, vx_callVW, vx_runVW, vx_runVX, vx_runSX, vx_ofWH follow the same proofs as their sisters above (Free/Laws.lean, Shelf42/LK1.lean); vx_outP calls Shelf42/NT130.lean (outThrough). -/
section
variable {l : Launch} {R : Room} {p : Program} {e : Env} {below : List Frame} {s : State} {sargs : Array Value} {y : MethodName} {len W9 : Nat}
theorem vx_backW {ws : List Cond} {rm : Room} {Pc : Array Value → State → Prop} {Qc : Array Value → State → Outcome → State → Prop} {XC : String → State → State → Prop} {mc ms : Nat} {free : Addr → Prop} {bytes : ByteArray} {maxL : Nat} {ret : Option FieldType} {hh : List (Nat × Nat × Nat × Nat)}
    (hM : vx_Met l y ws rm Pc Qc XC mc ms free) (hblind : FrameBlind Pc) (hrc : rm.cells = mc) (hrs : rm.slots = ms)
    (hframes : rm.frames + 1 ≤ R.frames) (hlocals : W9 + (maxL + 11) + rm.locals ≤ R.locals)
    (hws : ∀ w ∈ ws, ∀ a' U, s.WarmedH U.vm → w.before a' U = true) (hcode : Cond.codeWith y bytes maxL ret hh ∈ ws) (hinit : ∀ a' U, s.WarmedH U.vm → (Cond.initialized y.cls).before a' U = true) :
    vx_Back l R p e below s sargs y len W9 (PreOf R mc ms Pc) (PostOf Qc mc ms free) (vx_Post XC mc ms free) := by
  intro m meth c A g ig mk a X hg hsize hdg hW hn hp
  have h1 : (headSpec ws rm).pre.before a A.U = true := atoms_intro fun w hw => hws w hw _ _ X.warmed
  have h2 : (Cond.codeWith y bytes maxL ret hh).before a A.U = true := hws _ hcode _ _ X.warmed
  have h3 : (Cond.initialized y.cls).before a A.U = true := hinit _ _ X.warmed
  have h4 : A.cells + (headSpec ws rm).room.cells ≤ R.cells := by rw [show (headSpec ws rm).room.cells = mc from hrc]; exact hp.1
  have h5 : A.slots + (headSpec ws rm).room.slots ≤ R.slots := by rw [show (headSpec ws rm).room.slots = ms from hrs]; exact hp.2.1
  have hPc : Pc a (A.U.calling g mk a) := hblind _ _ _ _ hp.2.2
  obtain ⟨U, Ls, c0, s0⟩ := A
  dsimp only [Pt.U, Pt.locs, Pt.cells, Pt.slots] at h1 h2 h3 h4 h5 X hn hPc ⊢
  obtain ⟨m9, methY, cY, hn9, hmY, hcY, -, hlY, -⟩ := Cond.codeWith_spec h2
  cases Option.some.inj (hn9.symm.trans hn)
  obtain ⟨kY, hkY, -⟩ := className_of_methodNamed hn
  have hinitY : kY.init = .initialized := Cond.initialized_spec (findClass_of_methodNamed hn) hkY h3
  have h : At U g.method c below := by rw [hg]; exact X.here
  have hlocals9 : W9 + (maxL + 11) + (headSpec ws rm).room.locals ≤ R.locals := hlocals
  have happ : (headSpec ws rm).appliesLoose y e.platform (U.calling g mk a) = true :=
    Spec.appliesLoose_calling (g := g) h hdg hn hkY hinitY
      (X.room_calling (g := g) (R' := (headSpec ws rm).room) hsize hmY hcY hframes (by rw [hlY]; omega) h4 h5) h1
  obtain ⟨mid, hmid⟩ := h.above
  have hfr : (U.setTop g).frames = (.java g :: mid) ++ below := by rw [State.frames_setTop' g h.top, hmid]; rfl
  obtain ⟨o, s₂, hsteps, -, hend, hq⟩ := Steps.callFree hM p X.admits X.cas X.clock (acts := []) hfr happ hPc trivial
  have hq' : vx_Q Qc XC mc ms free a (U.calling g mk a) o s₂ := hq
  rw [State.frames_setTop' g h.top] at hend
  obtain ⟨g₀, hg0⟩ := Option.isSome_iff_exists.mp h.top
  obtain ⟨r, hr⟩ := State.topJava?_eq_some.mp hg0
  have hr' : (({ U with heap := s₂.heap, slotsUsed := s₂.slotsUsed } : State).setVm s₂.vm).frames = .java g₀ :: r := hr
  rcases hq' with ⟨hqc, L, hfe, hL⟩ | ⟨q, rfl, E, ce, L, hx, hce, hcv, hcl, hW₂, hsm, hL⟩
  · obtain ⟨⟨v, rfl⟩, hW₂, e2, q2, q3, q4, q5, q6⟩ := id hfe
    have e3 : s₂ = ({ (U.calling g mk a).setFrames s₂.frames with heap := s₂.heap, slotsUsed := s₂.slotsUsed } : State).setVm s₂.vm := by
      have : s₂ = ({ s₂ with vm := (U.calling g mk a).vm } : State).setVm s₂.vm := rfl
      rw [e2] at this
      exact this
    obtain ⟨c₂, i₂, len₂, hc₂, hd₂, hf₂⟩ := hend
    have hW' : U.WarmedH s₂.vm := hW₂
    have hcc : c₂ = c := by
      have h1 : s₂.code? g.method = U.code? g.method := by
        rw [State.code?_eq, State.code?_eq, hW'.alike.method?]
      exact Option.some.inj (hc₂.symm.trans (h1.trans h.code))
    subst hcc
    have hlen : len₂ = len := by rw [hdg] at hd₂; cases hd₂; rfl
    subst hlen
    have hs₂ : s₂ = (({ U with heap := s₂.heap, slotsUsed := s₂.slotsUsed } : State).setVm s₂.vm).setTop { g with pc := g.pc + len₂, stack := v.toList ++ g.stack } := by
      refine e3.trans ?_
      rw [hf₂, State.calling_eq h.top, State.setFrames_setFrames, State.setTop_of_frames _ hr', hr]
      rfl
    have hsame : U.sameButNew ({ U with heap := s₂.heap, slotsUsed := s₂.slotsUsed } : State) L mc ms := by
      refine ⟨?_, q2, q3, q4, q5, q6⟩
      obtain ⟨t, ht, -⟩ := State.frames_cons hr
      show ({ U with heap := s₂.heap, slotsUsed := s₂.slotsUsed } : State) = { U.setFrames U.frames with heap := s₂.heap, slotsUsed := s₂.slotsUsed }
      rw [State.setFrames_self ht]
    subst hg
    refine Or.inl ⟨v, ⟨(({ U with heap := s₂.heap, slotsUsed := s₂.slotsUsed } : State).setVm s₂.vm), Ls ++ L, c0 + mc, s0 + ms⟩,
      ⟨X.admits, X.cas, X.clock, X.frames, X.room, X.hears, X.method, X.code, (X.here.setHeapUsed s₂.heap s₂.slotsUsed).setVm hW'.alike, X.tail, State.WarmedH.trans X.warmed hW', X.limits, X.bytes, X.same.trans (hsame.setVm s.vm)⟩,
      ⟨g, mk, s₂, L, rfl, rfl, hqc, rfl, hL, rfl, rfl⟩, ?_⟩
    show Steps p.tables e below _ ((({ U with heap := s₂.heap, slotsUsed := s₂.slotsUsed } : State).setVm s₂.vm).setTop { g with pc := g.pc + len₂, stack := v.toList ++ g.stack })
    rw [← hs₂]
    exact hsteps
  · obtain ⟨e2, q2, q3, q4, q5, q6⟩ := id hsm
    have e3 : s₂ = ({ (U.calling g mk a).setFrames s₂.frames with heap := s₂.heap, slotsUsed := s₂.slotsUsed } : State).setVm s₂.vm := by
      have : s₂ = ({ s₂ with vm := (U.calling g mk a).vm } : State).setVm s₂.vm := rfl
      rw [e2] at this
      exact this
    have hf₂ : s₂.frames = .throwing q :: .java g :: U.frames.tail := hend
    have hW' : U.WarmedH s₂.vm := hW₂
    have hs₂ : s₂ = ((({ U with heap := s₂.heap, slotsUsed := s₂.slotsUsed } : State).setVm s₂.vm).setTop g).pushFrame (.throwing q) := by
      refine e3.trans ?_
      rw [hf₂, State.calling_eq h.top, State.setFrames_setFrames, State.pushFrame, State.frames_setTop _ hr', State.setTop_of_frames _ hr', State.setFrames_setFrames, hr]
      rfl
    have hsame : U.sameButNew ({ U with heap := s₂.heap, slotsUsed := s₂.slotsUsed } : State) L mc ms := by
      refine ⟨?_, q2, q3, q4, q5, q6⟩
      obtain ⟨t, ht, -⟩ := State.frames_cons hr
      show ({ U with heap := s₂.heap, slotsUsed := s₂.slotsUsed } : State) = { U.setFrames U.frames with heap := s₂.heap, slotsUsed := s₂.slotsUsed }
      rw [State.setFrames_self ht]
    subst hg
    refine Or.inr ⟨q, ⟨(({ U with heap := s₂.heap, slotsUsed := s₂.slotsUsed } : State).setVm s₂.vm), Ls ++ L, c0 + mc, s0 + ms⟩,
      ⟨X.admits, X.cas, X.clock, X.frames, X.room, X.hears, X.method, X.code, (X.here.setHeapUsed s₂.heap s₂.slotsUsed).setVm hW'.alike, X.tail, State.WarmedH.trans X.warmed hW', X.limits, X.bytes, X.same.trans (hsame.setVm s.vm)⟩,
      ⟨g, mk, s₂, L, E, ce, rfl, rfl, hx, hce, hcv, hcl, rfl, hL, rfl, rfl⟩, ?_⟩
    show Steps p.tables e below _ (((({ U with heap := s₂.heap, slotsUsed := s₂.slotsUsed } : State).setVm s₂.vm).setTop g).pushFrame (.throwing q))
    rw [← hs₂]
    exact hsteps
end
variable {p : Program} {l : Launch} {e : Env} {R : Room} {s : State} {m : MethodId} {args : Array Value} {below : List Frame} {meth : Method} {c : Code} {T : State} {H : Heap} {locs : List Loc} {cells slots : Nat}
theorem vx_callVX (X : Stand p l e R s m args below meth c T locs cells slots) (hexec : p.tables.exec = Jvm.exec) {own C : String} {index : Nat} {y : MethodName} {bytes : ByteArray} {maxL : Nat} {ret : Option FieldType} {hh : List (Nat × Nat × Nat × Nat)}
    (hown : s.vm.findClass own = some m.cls) (hlink : (Cond.methodLink own index y).before args s = true) (hinst : (Cond.instanceMethod y).before args s = true) (hsel : (Cond.selects C y y).before args s = true)
    (hcode : (Cond.codeWith y bytes maxL ret hh).before args s = true) (hy : y.cls ≠ "java/lang/invoke/MethodHandle" ∧ y.cls ≠ "java/lang/invoke/VarHandle")
    {W9 : Nat} {Pre : Pt → Array Value → Prop} {Post : Pt → Array Value → Option Value → Pt → Prop} {PostX : Pt → Array Value → Addr → Pt → Prop} (hK : vx_Back l R p e below s args y 3 W9 Pre Post PostX)
    {b : Addr} {cellB : Cell} (hcell : T.heap[b]? = some cellB) (hobj : cellB.vm.isStatics = false) (hcls : s.vm.findClass C = some cellB.cls)
    {g : JFrame} (hg : g.method = m) (hsize : g.locals.size = c.maxLocals) {argsL rest : List Value} (hlen : ∀ sig, parseMethodDescriptor y.desc = some sig → argsL.length = sig.parameters.length)
    (hstack : g.stack = argsL.reverse ++ .ref b :: rest) (hW : 2 * g.monitorRoom + (rest.map fun v => v.category).sum ≤ W9) (hdg : decode c.code g.pc = .ok (.invokevirtual index, 3))
    (hpre : ∀ vm₁, s.WarmedH vm₁ → Pre ⟨T.setVm vm₁, locs, cells, slots⟩ (Value.ref b :: argsL).toArray) :
    (∃ (v : Option Value) (vm₁ : Vm) (B : Pt), s.WarmedH vm₁ ∧ Stand p l e R s m args below meth c B.U B.locs B.cells B.slots ∧ Post ⟨T.setVm vm₁, locs, cells, slots⟩ (Value.ref b :: argsL).toArray v B ∧
      ∀ target, Steps p.tables e below (B.U.setTop { g with pc := g.pc + 3, stack := v.toList ++ rest }) target → Steps p.tables e below (T.setTop g) target) ∨
    (∃ (q : Addr) (vm₁ : Vm) (B : Pt), s.WarmedH vm₁ ∧ Stand p l e R s m args below meth c B.U B.locs B.cells B.slots ∧ PostX ⟨T.setVm vm₁, locs, cells, slots⟩ (Value.ref b :: argsL).toArray q B ∧
      Steps p.tables e below (T.setTop g) ((B.U.setTop { g with stack := rest }).pushFrame (.throwing q))) := by
  obtain ⟨mk, methM, hnamed, hmethM, hstM, habM⟩ := Cond.instanceMethod_spec hinst
  obtain ⟨m8, methM', cM, hn8, hmethM', -, -, -, -, -, -, hsigM⟩ := Cond.codeWith_spec hcode
  cases Option.some.inj (hn8.symm.trans hnamed)
  cases hmethM.symm.trans hmethM'
  obtain ⟨c2, r2, m2, q1, q2, q3, q4, kP, hkP, hkPi⟩ := Cond.selects_spec hsel
  cases hcls.symm.trans q1
  cases (State.methodFound?_of_named hnamed hy).symm.trans q2
  cases hnamed.symm.trans q3
  have hselP : selectMethod e.platform s.vm cellB.cls mk = .method mk := by rw [Launch.admits_selectMethod X.admits]; exact q4
  obtain ⟨vm₁, X₁, hstep₁⟩ := X.invokevirtual hexec hown hlink hnamed hmethM hstM hkP hkPi hy (a := b) (cell := cellB) hcell
    (fun z h => by rw [h] at hobj; cases hobj) hselP hmethM habM hkP hkPi (g := g) hg (argsL := argsL) (rest := rest) (hlen _ hsigM) hstack hdg
  rcases hK m meth c ⟨T.setVm vm₁, locs, cells, slots⟩ { g with stack := rest } (.invokevirtual index) mk (Value.ref b :: argsL).toArray X₁ hg hsize hdg hW (X₁.named hnamed) (hpre vm₁ X₁.warmed) with ⟨v, B, X', hpost, hsteps⟩ | ⟨q, B, X', hpost, hsteps⟩
  · exact Or.inl ⟨v, vm₁, B, X₁.warmed, X', hpost, fun target h => hstep₁ _ fun acts => by rw [doInvoke_state]; exact hsteps.trans h⟩
  · exact Or.inr ⟨q, vm₁, B, X₁.warmed, X', hpost, hstep₁ _ fun acts => by rw [doInvoke_state]; exact hsteps⟩
theorem vx_callSX (X : Stand p l e R s m args below meth c T locs cells slots) (hexec : p.tables.exec = Jvm.exec) {own : String} {index : Nat} {y : MethodName} {bytes : ByteArray} {maxL : Nat} {ret : Option FieldType} {hh : List (Nat × Nat × Nat × Nat)}
    (hown : s.vm.findClass own = some m.cls) (hlink : (Cond.methodLink own index y).before args s = true) (hstat : (Cond.static y).before args s = true) (hinit : (Cond.initialized y.cls).before args s = true)
    (hcode : (Cond.codeWith y bytes maxL ret hh).before args s = true) (hy : y.cls ≠ "java/lang/invoke/MethodHandle" ∧ y.cls ≠ "java/lang/invoke/VarHandle")
    {W9 : Nat} {Pre : Pt → Array Value → Prop} {Post : Pt → Array Value → Option Value → Pt → Prop} {PostX : Pt → Array Value → Addr → Pt → Prop} (hK : vx_Back l R p e below s args y 3 W9 Pre Post PostX)
    {g : JFrame} (hg : g.method = m) (hsize : g.locals.size = c.maxLocals) {argsL rest : List Value} (hlen : ∀ sig, parseMethodDescriptor y.desc = some sig → argsL.length = sig.parameters.length)
    (hstack : g.stack = argsL.reverse ++ rest) (hW : 2 * g.monitorRoom + (rest.map fun v => v.category).sum ≤ W9) (hdg : decode c.code g.pc = .ok (.invokestatic index, 3))
    (hpre : ∀ vm₁, s.WarmedH vm₁ → Pre ⟨T.setVm vm₁, locs, cells, slots⟩ argsL.toArray) :
    (∃ (v : Option Value) (vm₁ : Vm) (B : Pt), s.WarmedH vm₁ ∧ Stand p l e R s m args below meth c B.U B.locs B.cells B.slots ∧ Post ⟨T.setVm vm₁, locs, cells, slots⟩ argsL.toArray v B ∧
      ∀ target, Steps p.tables e below (B.U.setTop { g with pc := g.pc + 3, stack := v.toList ++ rest }) target → Steps p.tables e below (T.setTop g) target) ∨
    (∃ (q : Addr) (vm₁ : Vm) (B : Pt), s.WarmedH vm₁ ∧ Stand p l e R s m args below meth c B.U B.locs B.cells B.slots ∧ PostX ⟨T.setVm vm₁, locs, cells, slots⟩ argsL.toArray q B ∧
      Steps p.tables e below (T.setTop g) ((B.U.setTop { g with stack := rest }).pushFrame (.throwing q))) := by
  obtain ⟨mk, methM, cM, hnamed, hmethM, -, -, -, -, -, -, hsigM⟩ := Cond.codeWith_spec hcode
  have hstatic : methM.isStatic = true := Cond.static_spec hnamed hmethM hstat
  obtain ⟨kP, hkP, -⟩ := className_of_methodNamed hnamed
  have hinitP : kP.init = .initialized := Cond.initialized_spec (findClass_of_methodNamed hnamed) hkP hinit
  obtain ⟨vm₁, X₁, hstep₁⟩ := X.invokestatic hexec hown hlink hnamed hmethM hstatic hkP hinitP hy (g := g) hg (argsL := argsL) (rest := rest) (hlen _ hsigM) hstack hdg
  rcases hK m meth c ⟨T.setVm vm₁, locs, cells, slots⟩ { g with stack := rest } (.invokestatic index) mk argsL.toArray X₁ hg hsize hdg hW (X₁.named hnamed) (hpre vm₁ X₁.warmed) with ⟨v, B, X', hpost, hsteps⟩ | ⟨q, B, X', hpost, hsteps⟩
  · exact Or.inl ⟨v, vm₁, B, X₁.warmed, X', hpost, fun target h => hstep₁ _ fun acts => by rw [doInvoke_state]; exact hsteps.trans h⟩
  · exact Or.inr ⟨q, vm₁, B, X₁.warmed, X', hpost, hstep₁ _ fun acts => by rw [doInvoke_state]; exact hsteps⟩
theorem vx_callVW (X : Stand p l e R s m args below meth c T locs cells slots) (hexec : p.tables.exec = Jvm.exec) {own C : String} {index : Nat} {y : MethodName} {bytes : ByteArray} {maxL : Nat} {ret : Option FieldType} {hh : List (Nat × Nat × Nat × Nat)}
    (hown : s.vm.findClass own = some m.cls) (hlink : (Cond.methodLink own index y).before args s = true) (hinst : (Cond.instanceMethod y).before args s = true) (hsel : (Cond.selects C y y).before args s = true)
    (hcode : (Cond.codeWith y bytes maxL ret hh).before args s = true) (hy : y.cls ≠ "java/lang/invoke/MethodHandle" ∧ y.cls ≠ "java/lang/invoke/VarHandle")
    {W9 : Nat} {Pre : Pt → Array Value → Prop} {Post : Pt → Array Value → Option Value → Pt → Prop} (hK : Back l R p e below s args y 3 W9 Pre Post)
    {b : Addr} {cellB : Cell} (hcell : T.heap[b]? = some cellB) (hobj : cellB.vm.isStatics = false) (hcls : s.vm.findClass C = some cellB.cls)
    {g : JFrame} (hg : g.method = m) (hsize : g.locals.size = c.maxLocals) {argsL rest : List Value} (hlen : ∀ sig, parseMethodDescriptor y.desc = some sig → argsL.length = sig.parameters.length)
    (hstack : g.stack = argsL.reverse ++ .ref b :: rest) (hW : 2 * g.monitorRoom + (rest.map fun v => v.category).sum ≤ W9) (hdg : decode c.code g.pc = .ok (.invokevirtual index, 3))
    (hpre : ∀ vm₁, s.WarmedH vm₁ → Pre ⟨T.setVm vm₁, locs, cells, slots⟩ (Value.ref b :: argsL).toArray) :
    ∃ (v : Option Value) (vm₁ : Vm) (B : Pt), s.WarmedH vm₁ ∧ Stand p l e R s m args below meth c B.U B.locs B.cells B.slots ∧ Post ⟨T.setVm vm₁, locs, cells, slots⟩ (Value.ref b :: argsL).toArray v B ∧
      ∀ target, Steps p.tables e below (B.U.setTop { g with pc := g.pc + 3, stack := v.toList ++ rest }) target → Steps p.tables e below (T.setTop g) target := by
  obtain ⟨mk, methM, hnamed, hmethM, hstM, habM⟩ := Cond.instanceMethod_spec hinst
  obtain ⟨m8, methM', cM, hn8, hmethM', -, -, -, -, -, -, hsigM⟩ := Cond.codeWith_spec hcode
  cases Option.some.inj (hn8.symm.trans hnamed)
  cases hmethM.symm.trans hmethM'
  obtain ⟨c2, r2, m2, q1, q2, q3, q4, kP, hkP, hkPi⟩ := Cond.selects_spec hsel
  cases hcls.symm.trans q1
  cases (State.methodFound?_of_named hnamed hy).symm.trans q2
  cases hnamed.symm.trans q3
  have hselP : selectMethod e.platform s.vm cellB.cls mk = .method mk := by rw [Launch.admits_selectMethod X.admits]; exact q4
  obtain ⟨vm₁, X₁, hstep₁⟩ := X.invokevirtual hexec hown hlink hnamed hmethM hstM hkP hkPi hy (a := b) (cell := cellB) hcell
    (fun z h => by rw [h] at hobj; cases hobj) hselP hmethM habM hkP hkPi (g := g) hg (argsL := argsL) (rest := rest) (hlen _ hsigM) hstack hdg
  obtain ⟨v, B, X', hpost, hsteps⟩ := hK m meth c ⟨T.setVm vm₁, locs, cells, slots⟩ { g with stack := rest } (.invokevirtual index) mk (Value.ref b :: argsL).toArray X₁ hg hsize hdg hW (X₁.named hnamed) (hpre vm₁ X₁.warmed)
  exact ⟨v, vm₁, B, X₁.warmed, X', hpost, fun target h => hstep₁ _ fun acts => by rw [doInvoke_state]; exact hsteps.trans h⟩
abbrev vx_CVW (R : Room) (s : State) (args : Array Value) (own C : String) (index : Nat) (y : MethodName) (bytes : ByteArray) (maxL : Nat) (ret : Option FieldType) (hh : List (Nat × Nat × Nat × Nat)) (ws : List Cond) (rm : Room) (mc ms n : Nat) : Prop :=
  (rm.cells = mc ∧ rm.slots = ms ∧ rm.frames + 1 ≤ R.frames ∧ 8 + (maxL + 11) + rm.locals ≤ R.locals ∧ (∀ w ∈ ws, ∀ (a' : Array Value) (U : State), s.WarmedH U.vm → w.before a' U = true) ∧ Cond.codeWith y bytes maxL ret hh ∈ ws) ∧
  (Cond.codeWith y bytes maxL ret hh).before args s = true ∧ (Cond.initialized y.cls).before args s = true ∧ (y.cls ≠ "java/lang/invoke/MethodHandle" ∧ y.cls ≠ "java/lang/invoke/VarHandle") ∧
  (∀ sig, parseMethodDescriptor y.desc = some sig → n = sig.parameters.length) ∧ (Cond.methodLink own index y).before args s = true ∧ (Cond.instanceMethod y).before args s = true ∧ (Cond.selects C y y).before args s = true
theorem vx_cwVW {own C : String} {index maxL mc ms : Nat} {y : MethodName} {bytes : ByteArray} {ret : Option FieldType} {hh : List (Nat × Nat × Nat × Nat)} {Ts ws ws' : List Cond} {rm : Room} (n : Nat) (ht : ∀ w ∈ Ts, w.before args s = true) (hT : GoodIn Ts (wsV own index C y ws)) (hw : ws = Cond.codeWith y bytes maxL ret hh :: ws') (hrc : rm.cells = mc) (hrs : rm.slots = ms)
    (hd : y.cls = C ∧ y.cls ≠ "java/lang/invoke/MethodHandle" ∧ y.cls ≠ "java/lang/invoke/VarHandle" ∧ (parseMethodDescriptor y.desc).map (fun d => d.parameters.length) = some n) (hR : rm.frames + 1 ≤ R.frames ∧ 8 + (maxL + 11) + rm.locals ≤ R.locals) :
    vx_CVW R s args own C index y bytes maxL ret hh ws rm mc ms n := by
  obtain ⟨hC, hd⟩ := hd
  subst hC
  have ok : ∀ w ∈ wsV own index y.cls y ws, w.before args s = true := fun w h => ht w (hT w h).1
  have hG : GoodIn Ts ws := fun w h => hT w (by unfold wsV; exact List.mem_append_right _ h)
  have hc : Cond.codeWith y bytes maxL ret hh ∈ ws := by rw [hw]; exact List.mem_cons_self
  refine ⟨⟨hrc, hrs, hR.1, hR.2, pay_in ht hG, hc⟩, ht _ (hG _ hc).1, ok _ (by simp [wsV]), ⟨hd.1, hd.2.1⟩, fun sig h => ?_, ok _ (by simp [wsV]), ok _ (by simp [wsV]), ok _ (by simp [wsV])⟩
  have h2 := hd.2.2
  rw [h] at h2
  exact (Option.some.inj h2).symm
theorem vx_runVW {y : MethodName} {bytes cc : ByteArray} {maxL nL mc ms n index : Nat} {ret : Option FieldType} {hh : List (Nat × Nat × Nat × Nat)} {ws : List Cond} {rm : Room} {Pc : Array Value → State → Prop} {Qc : Array Value → State → Outcome → State → Prop} {free : Addr → Prop} {Ts : List Cond} {own C : String} {b : Addr} {As rest : List Value} {g : JFrame}
    (S : CallFix p m c cc nL s args Ts own) (hM : Met l y ws rm Pc Qc mc ms free) (cw : vx_CVW R s args own C index y bytes maxL ret hh ws rm mc ms n) (hp : PreV s H C b Pc As)
    (hg : g.method = m) (hn : As.length = n) (hsize : g.locals.size = nL) (hstack : g.stack = As.reverse ++ .ref b :: rest) (hW : 2 * g.monitorRoom + (rest.map fun v => v.category).sum ≤ 8) (hdg : decode cc g.pc = .ok (.invokevirtual index, 3)) (hf : cells + mc ≤ R.cells ∧ slots + ms ≤ R.slots) :
    va_Run p l e R s m args below meth c H locs cells slots mc ms g rest (Qc (Value.ref b :: As).toArray) free := by
  obtain ⟨⟨hrc, hrs, hfr, hlo, hws, hcw⟩, hcode, hini, hy, hlen, hl, hin, hse⟩ := cw
  have hK : Back l R p e below s args y 3 8 (PreOf R mc ms Pc) (PostOf Qc mc ms free) := va_backW (hh := hh) (bytes := bytes) (maxL := maxL) (ret := ret) hM hp.1 hrc hrs hfr hlo hws hcw (fun a' U hW => word_at hW (Or.inl (by first | rfl | simp [Cond.onTables, Cond.keeps, Cond.steady])) hini)
  obtain ⟨hx, hb, hml, ho, -⟩ := S
  obtain ⟨-, ⟨cellB, hcB, hoB, hclB⟩, hPc⟩ := hp
  intro T hT X
  obtain ⟨v, vm₁, ⟨U', l2, c2, s2⟩, hW₁, X', ⟨g', mk, t, L, e1, e2, hq, h1, hL, h2, h3⟩, st⟩ := vx_callVW X hx (C := C) (hh := hh) (bytes := bytes) (maxL := maxL) (ret := ret) ho hl hin hse hcode hy hK (by rw [hT]; exact hcB) hoB hclB hg (hsize.trans hml.symm) (argsL := As) (rest := rest) (fun sig h => hn.trans (hlen sig h)) hstack hW (by rw [hb]; exact hdg)
    (fun vm₁ hW₁ => ⟨hf.1, hf.2, hPc (T.setVm vm₁) hT hW₁⟩)
  dsimp only [Pt.U, Pt.locs, Pt.cells, Pt.slots] at X' e1 e2 h1 h2 h3 st
  subst h1; subst h2; subst h3
  exact ⟨v, (T.setVm vm₁).calling g' mk (Value.ref b :: As).toArray, t, U', L, hT, X', hL, e1, e2, hq, st⟩
section
variable {y : MethodName} {bytes cc : ByteArray} {maxL nL mc ms n index : Nat} {ret : Option FieldType} {ws : List Cond} {rm : Room} {Pc : Array Value → State → Prop} {Qc : Array Value → State → Outcome → State → Prop} {XC : String → State → State → Prop} {free : Addr → Prop} {Ts : List Cond} {own C : String} {b : Addr} {As rest : List Value} {g : JFrame}
theorem vx_runVX {hh : List (Nat × Nat × Nat × Nat)} (S : CallFix p m c cc nL s args Ts own) (hM : vx_Met l y ws rm Pc Qc XC mc ms free) (cw : vx_CVW R s args own C index y bytes maxL ret hh ws rm mc ms n) (hp : PreV s H C b Pc As)
    (hg : g.method = m) (hn : As.length = n) (hsize : g.locals.size = nL) (hstack : g.stack = As.reverse ++ .ref b :: rest) (hW : 2 * g.monitorRoom + (rest.map fun v => v.category).sum ≤ 8) (hdg : decode cc g.pc = .ok (.invokevirtual index, 3)) (hf : cells + mc ≤ R.cells ∧ slots + ms ≤ R.slots) :
    vx_Run p l e R s m args below meth c H locs cells slots mc ms g rest (Qc (Value.ref b :: As).toArray) XC free := by
  obtain ⟨⟨hrc, hrs, hfr, hlo, hws, hcw⟩, hcode, hini, hy, hlen, hl, hin, hse⟩ := cw
  have hK : vx_Back l R p e below s args y 3 8 (PreOf R mc ms Pc) (PostOf Qc mc ms free) (vx_Post XC mc ms free) := vx_backW (hh := hh) (bytes := bytes) (maxL := maxL) (ret := ret) hM hp.1 hrc hrs hfr hlo hws hcw (fun a' U hW => word_at hW (Or.inl (by first | rfl | simp [Cond.onTables, Cond.keeps, Cond.steady])) hini)
  obtain ⟨hx, hb, hml, ho, -⟩ := S
  obtain ⟨-, ⟨cellB, hcB, hoB, hclB⟩, hPc⟩ := hp
  intro T hT X
  rcases vx_callVX X hx (C := C) (hh := hh) (bytes := bytes) (maxL := maxL) (ret := ret) ho hl hin hse hcode hy hK (by rw [hT]; exact hcB) hoB hclB hg (hsize.trans hml.symm) (argsL := As) (rest := rest) (fun sig h => hn.trans (hlen sig h)) hstack hW (by rw [hb]; exact hdg)
    (fun vm₁ hW₁ => ⟨hf.1, hf.2, hPc (T.setVm vm₁) hT hW₁⟩) with ⟨v, vm₁, ⟨U', l2, c2, s2⟩, hW₁, X', ⟨g', mk, t, L, e1, e2, hq, h1, hL, h2, h3⟩, st⟩ | ⟨q, vm₁, ⟨U', l2, c2, s2⟩, hW₁, X', ⟨g', mk, t, L, E, ce, e1, e2, hq, hce, hcv, hcl, h1, hL, h2, h3⟩, st⟩
  · dsimp only [Pt.U, Pt.locs, Pt.cells, Pt.slots] at X' e1 e2 h1 h2 h3 st
    subst h1; subst h2; subst h3
    exact Or.inl ⟨v, (T.setVm vm₁).calling g' mk (Value.ref b :: As).toArray, t, U', L, hT, X', hL, e1, e2, hq, st⟩
  · dsimp only [Pt.U, Pt.locs, Pt.cells, Pt.slots] at X' e1 e2 h1 h2 h3 st hcl
    subst h1; subst h2; subst h3
    exact Or.inr ⟨q, (T.setVm vm₁).calling g' mk (Value.ref b :: As).toArray, t, U', L, E, ce, hT, X', hL, e1, e2, hq, hce, hcv, vx_cls hW₁ hcl, st⟩
theorem vx_runSX {hh : List (Nat × Nat × Nat × Nat)} (S : CallFix p m c cc nL s args Ts own) (hM : vx_Met l y ws rm Pc Qc XC mc ms free) (cw : vx_CSW R s args own index y bytes maxL ret hh ws rm mc ms n) (hp : PreS s H Pc As)
    (hg : g.method = m) (hn : As.length = n) (hsize : g.locals.size = nL) (hstack : g.stack = As.reverse ++ rest) (hW : 2 * g.monitorRoom + (rest.map fun v => v.category).sum ≤ 8) (hdg : decode cc g.pc = .ok (.invokestatic index, 3)) (hf : cells + mc ≤ R.cells ∧ slots + ms ≤ R.slots) :
    vx_Run p l e R s m args below meth c H locs cells slots mc ms g rest (Qc As.toArray) XC free := by
  obtain ⟨⟨hrc, hrs, hfr, hlo, hws, hcw⟩, hcode, hini, hy, hlen, hl, hstt⟩ := cw
  have hK : vx_Back l R p e below s args y 3 8 (PreOf R mc ms Pc) (PostOf Qc mc ms free) (vx_Post XC mc ms free) := vx_backW (hh := hh) (bytes := bytes) (maxL := maxL) (ret := ret) hM hp.1 hrc hrs hfr hlo hws hcw (fun a' U hW => word_at hW (Or.inl (by first | rfl | simp [Cond.onTables, Cond.keeps, Cond.steady])) hini)
  obtain ⟨hx, hb, hml, ho, -⟩ := S
  intro T hT X
  rcases vx_callSX X hx (hh := hh) (bytes := bytes) (maxL := maxL) (ret := ret) ho hl hstt hini hcode hy hK hg (hsize.trans hml.symm) (argsL := As) (rest := rest) (fun sig h => hn.trans (hlen sig h)) hstack hW (by rw [hb]; exact hdg)
    (fun vm₁ hW₁ => ⟨hf.1, hf.2, hp.2 (T.setVm vm₁) hT hW₁⟩) with ⟨v, vm₁, ⟨U', l2, c2, s2⟩, hW₁, X', ⟨g', mk, t, L, e1, e2, hq, h1, hL, h2, h3⟩, st⟩ | ⟨q, vm₁, ⟨U', l2, c2, s2⟩, hW₁, X', ⟨g', mk, t, L, E, ce, e1, e2, hq, hce, hcv, hcl, h1, hL, h2, h3⟩, st⟩
  · dsimp only [Pt.U, Pt.locs, Pt.cells, Pt.slots] at X' e1 e2 h1 h2 h3 st
    subst h1; subst h2; subst h3
    exact Or.inl ⟨v, (T.setVm vm₁).calling g' mk As.toArray, t, U', L, hT, X', hL, e1, e2, hq, st⟩
  · dsimp only [Pt.U, Pt.locs, Pt.cells, Pt.slots] at X' e1 e2 h1 h2 h3 st hcl
    subst h1; subst h2; subst h3
    exact Or.inr ⟨q, (T.setVm vm₁).calling g' mk As.toArray, t, U', L, E, ce, hT, X', hL, e1, e2, hq, hce, hcv, vx_cls hW₁ hcl, st⟩
end
end VXH
theorem vx_ofWH {l : Launch} {y : MethodName} {ws ws' : List Cond} {rm : Room} {Pc : Array Value → State → Prop} {Qc : Array Value → State → Outcome → State → Prop} {XC : String → State → State → Prop} {mc ms : Nat} {free : Addr → Prop} {cc : ByteArray} {maxL : Nat} {ret : Option FieldType} {hh : List (Nat × Nat × Nat × Nat)}
    (hy : plainName y.cls = true) (hw : ws = Cond.codeWith y cc maxL ret hh :: ws')
    (body : ∀ p e s m args below meth c s₁, BodyLoose p l y (headSpec ws rm) cc maxL ret e s m args below meth c s₁ → c.maxLocals = maxL → Pc args s →
      W p l e (headSpec ws rm).room s m args below meth c s.heap [] 0 0 (vx_MQ below Qc XC args s mc ms free) (entryFrame m args maxL)) : vx_Met l y ws rm Pc Qc XC mc ms free := by
  refine MetFree.of_bodyS (code := cc) (maxLocals := maxL) (ret := ret) hy ?_ ?_
  · intro args s m h hn
    obtain ⟨m9, meth, c, hn9, h1, h2, h3, h4, -, h5, h6, -⟩ := Cond.codeWith_spec (atoms_spec (ws := ws) h _ (by rw [hw]; exact List.mem_cons_self))
    cases hn.symm.trans hn9
    exact ⟨meth, c, h1, h2, h3, h4, h5, h6⟩
  · intro p e s m args below meth c s₁ B hml hP _
    have hh0 : s₁.heap = s.heap := by rw [B.state]; rfl
    obtain ⟨t, a1, o, b1, b2, b3⟩ := body p e s m args below meth c s₁ B hml hP s₁ hh0 (Stand.of_body B)
    exact ⟨t, o, a1, b1, b2, b3⟩
/-! ===== END ===== -/
end
section
def RX0 : String := "TicketWeaver$Agent"
def TX0 : u_T := fun k => match k with
  | 0 => ("TicketWeaver$Agent", "number", "I", true)
  | 1 => ("TicketWeaver$Agent", "skills", "I", false)
  | 2 => ("TicketWeaver$Agent", "isOnShift", "Z", false)
  | _ => ("TicketWeaver$Agent", "ticketCount", "I", false)
def tyX0 : Nat → FieldType := fun k => match k with
  | 0 => .int
  | 1 => .int
  | 2 => .boolean
  | _ => .int
abbrev wsX00 : List Cond := u_ws RX0 TX0 4
theorem nmX0 : ∀ a, a < 4 → ∀ b, b < 4 → a ≠ b → (TX0 a).2.1 ≠ (TX0 b).2.1 := by decide +kernel
theorem tyX0_ok : ∀ k, k < 4 → parseFieldDescriptor (TX0 k).2.2.1 = some (tyX0 k) := by decide +kernel
abbrev cX0_init : ByteArray := prog_2_method_1_code
def yX0_init : MethodName := ⟨RX0, "<init>", "(II)V"⟩
abbrev cX0_hasSkill : ByteArray := prog_2_method_2_code
def yX0_hasSkill : MethodName := ⟨RX0, "hasSkill", "(I)Z"⟩
abbrev cX0_canAnswer : ByteArray := prog_2_method_3_code
def yX0_canAnswer : MethodName := ⟨RX0, "canAnswer", "(I)Z"⟩
def RX1 : String := "TicketWeaver$Customer"
def TX1 : u_T := fun k => match k with
  | 0 => ("TicketWeaver$Customer", "promises", "[I", true)
  | _ => ("TicketWeaver$Customer", "level", "I", false)
def tyX1 : Nat → FieldType := fun k => match k with
  | 0 => .array .int
  | _ => .int
abbrev wsX10 : List Cond := u_ws RX1 TX1 2
theorem nmX1 : ∀ a, a < 2 → ∀ b, b < 2 → a ≠ b → (TX1 a).2.1 ≠ (TX1 b).2.1 := by decide +kernel
theorem tyX1_ok : ∀ k, k < 2 → parseFieldDescriptor (TX1 k).2.2.1 = some (tyX1 k) := by decide +kernel
abbrev cX1_init : ByteArray := prog_3_method_1_code
def yX1_init : MethodName := ⟨RX1, "<init>", "([I)V"⟩
def RX2 : String := "TicketWeaver$Mail"
def TX2 : u_T := fun k => match k with
  | 0 => ("TicketWeaver$Mail", "number", "I", true)
  | _ => ("TicketWeaver$Mail", "ticket", "LTicketWeaver$Ticket;", false)
def tyX2 : Nat → FieldType := fun k => match k with
  | 0 => .int
  | _ => .object "TicketWeaver$Ticket"
abbrev wsX20 : List Cond := u_ws RX2 TX2 2
theorem nmX2 : ∀ a, a < 2 → ∀ b, b < 2 → a ≠ b → (TX2 a).2.1 ≠ (TX2 b).2.1 := by decide +kernel
theorem tyX2_ok : ∀ k, k < 2 → parseFieldDescriptor (TX2 k).2.2.1 = some (tyX2 k) := by decide +kernel
abbrev cX2_init : ByteArray := prog_4_method_1_code
def yX2_init : MethodName := ⟨RX2, "<init>", "(ILTicketWeaver$Ticket;)V"⟩
def RX3 : String := "TicketWeaver$Prepared"
def TX3 : u_T := fun k => match k with
  | 0 => ("TicketWeaver$Prepared", "words", "I", true)
  | _ => ("TicketWeaver$Prepared", "weights", "[I", true)
def tyX3 : Nat → FieldType := fun k => match k with
  | 0 => .int
  | _ => .array .int
abbrev wsX30 : List Cond := u_ws RX3 TX3 2
theorem nmX3 : ∀ a, a < 2 → ∀ b, b < 2 → a ≠ b → (TX3 a).2.1 ≠ (TX3 b).2.1 := by decide +kernel
theorem tyX3_ok : ∀ k, k < 2 → parseFieldDescriptor (TX3 k).2.2.1 = some (tyX3 k) := by decide +kernel
abbrev cX3_init : ByteArray := prog_5_method_1_code
def yX3_init : MethodName := ⟨RX3, "<init>", "(I)V"⟩
abbrev cX3_gainWeight : ByteArray := prog_5_method_2_code
def yX3_gainWeight : MethodName := ⟨RX3, "gainWeight", "(I)V"⟩
abbrev cX3_loseWeight : ByteArray := prog_5_method_3_code
def yX3_loseWeight : MethodName := ⟨RX3, "loseWeight", "(I)V"⟩
def RX4 : String := "TicketWeaver$Ticket"
def TX4 : u_T := fun k => match k with
  | 0 => ("TicketWeaver$Ticket", "number", "I", true)
  | 1 => ("TicketWeaver$Ticket", "customer", "LTicketWeaver$Customer;", true)
  | 2 => ("TicketWeaver$Ticket", "subject", "I", true)
  | 3 => ("TicketWeaver$Ticket", "mails", "Ljava/util/ArrayList;", true)
  | 4 => ("TicketWeaver$Ticket", "topic", "I", false)
  | 5 => ("TicketWeaver$Ticket", "words", "I", false)
  | 6 => ("TicketWeaver$Ticket", "state", "C", false)
  | 7 => ("TicketWeaver$Ticket", "clock", "I", false)
  | 8 => ("TicketWeaver$Ticket", "isBroken", "Z", false)
  | 9 => ("TicketWeaver$Ticket", "agent", "LTicketWeaver$Agent;", false)
  | 10 => ("TicketWeaver$Ticket", "timesHandedOver", "I", false)
  | 11 => ("TicketWeaver$Ticket", "sent", "LTicketWeaver$Prepared;", false)
  | 12 => ("TicketWeaver$Ticket", "closedAt", "I", false)
  | _ => ("TicketWeaver$Ticket", "into", "LTicketWeaver$Ticket;", false)
def tyX4 : Nat → FieldType := fun k => match k with
  | 0 => .int
  | 1 => .object "TicketWeaver$Customer"
  | 2 => .int
  | 3 => .object "java/util/ArrayList"
  | 4 => .int
  | 5 => .int
  | 6 => .char
  | 7 => .int
  | 8 => .boolean
  | 9 => .object "TicketWeaver$Agent"
  | 10 => .int
  | 11 => .object "TicketWeaver$Prepared"
  | 12 => .int
  | _ => .object "TicketWeaver$Ticket"
abbrev wsX40 : List Cond := u_ws RX4 TX4 14
theorem nmX4 : ∀ a, a < 14 → ∀ b, b < 14 → a ≠ b → (TX4 a).2.1 ≠ (TX4 b).2.1 := by decide +kernel
theorem tyX4_ok : ∀ k, k < 14 → parseFieldDescriptor (TX4 k).2.2.1 = some (tyX4 k) := by decide +kernel
abbrev cX4_init : ByteArray := prog_6_method_1_code
def yX4_init : MethodName := ⟨RX4, "<init>", "(ILTicketWeaver$Customer;II)V"⟩
abbrev cX4_isOpenOrHeld : ByteArray := prog_6_method_2_code
def yX4_isOpenOrHeld : MethodName := ⟨RX4, "isOpenOrHeld", "()Z"⟩
abbrev cX4_isWaiting : ByteArray := prog_6_method_3_code
def yX4_isWaiting : MethodName := ⟨RX4, "isWaiting", "()Z"⟩
abbrev cX4_canBeJoined : ByteArray := prog_6_method_4_code
def yX4_canBeJoined : MethodName := ⟨RX4, "canBeJoined", "(I)Z"⟩
abbrev cX4_minutesLeft : ByteArray := prog_6_method_5_code
def yX4_minutesLeft : MethodName := ⟨RX4, "minutesLeft", "()I"⟩
abbrev cX4_isBefore : ByteArray := prog_6_method_6_code
def yX4_isBefore : MethodName := ⟨RX4, "isBefore", "(LTicketWeaver$Ticket;)Z"⟩
abbrev cX4_countMinutes : ByteArray := prog_6_method_7_code
def yX4_countMinutes : MethodName := ⟨RX4, "countMinutes", "(I)Z"⟩
abbrev cX4_beginAnew : ByteArray := prog_6_method_8_code
def yX4_beginAnew : MethodName := ⟨RX4, "beginAnew", "()V"⟩
abbrev cX4_joinAgent : ByteArray := prog_6_method_9_code
def yX4_joinAgent : MethodName := ⟨RX4, "joinAgent", "(LTicketWeaver$Agent;)V"⟩
abbrev cX4_leaveAgent : ByteArray := prog_6_method_10_code
def yX4_leaveAgent : MethodName := ⟨RX4, "leaveAgent", "()V"⟩
abbrev cX4_insertMail : ByteArray := prog_6_method_11_code
def yX4_insertMail : MethodName := ⟨RX4, "insertMail", "(LTicketWeaver$Mail;)V"⟩
abbrev cX4_lastMail : ByteArray := prog_6_method_12_code
def yX4_lastMail : MethodName := ⟨RX4, "lastMail", "()I"⟩
abbrev cX4_takeOver : ByteArray := prog_6_method_13_code
def yX4_takeOver : MethodName := ⟨RX4, "takeOver", "(LTicketWeaver$Ticket;)V"⟩
abbrev cX4_ownsItsMails : ByteArray := prog_6_method_14_code
def yX4_ownsItsMails : MethodName := ⟨RX4, "ownsItsMails", "()Z"⟩
def RX5 : String := "TicketWeaver$TopicQueue"
def TX5 : u_T := fun k => match k with
  | _ => ("TicketWeaver$TopicQueue", "line", "Ljava/util/ArrayList;", true)
def tyX5 : Nat → FieldType := fun k => match k with
  | _ => .object "java/util/ArrayList"
abbrev wsX50 : List Cond := u_ws RX5 TX5 1
theorem nmX5 : ∀ a, a < 1 → ∀ b, b < 1 → a ≠ b → (TX5 a).2.1 ≠ (TX5 b).2.1 := by decide +kernel
theorem tyX5_ok : ∀ k, k < 1 → parseFieldDescriptor (TX5 k).2.2.1 = some (tyX5 k) := by decide +kernel
abbrev cX5_init : ByteArray := prog_7_method_1_code
def yX5_init : MethodName := ⟨RX5, "<init>", "()V"⟩
abbrev cX5_length : ByteArray := prog_7_method_2_code
def yX5_length : MethodName := ⟨RX5, "length", "()I"⟩
abbrev cX5_head : ByteArray := prog_7_method_3_code
def yX5_head : MethodName := ⟨RX5, "head", "()LTicketWeaver$Ticket;"⟩
abbrev cX5_add : ByteArray := prog_7_method_4_code
def yX5_add : MethodName := ⟨RX5, "add", "(LTicketWeaver$Ticket;)V"⟩
abbrev cX5_remove : ByteArray := prog_7_method_5_code
def yX5_remove : MethodName := ⟨RX5, "remove", "(LTicketWeaver$Ticket;)V"⟩
abbrev cX5_orderAnew : ByteArray := prog_7_method_6_code
def yX5_orderAnew : MethodName := ⟨RX5, "orderAnew", "()V"⟩
abbrev cX5_insertBelow : ByteArray := prog_7_method_7_code
def yX5_insertBelow : MethodName := ⟨RX5, "insertBelow", "(ILTicketWeaver$Ticket;)V"⟩
def RX6 : String := "TicketWeaver"
def TX6 : u_T := fun k => match k with
  | 0 => ("TicketWeaver", "promises", "[I", true)
  | 1 => ("TicketWeaver", "customers", "[LTicketWeaver$Customer;", true)
  | 2 => ("TicketWeaver", "queues", "[LTicketWeaver$TopicQueue;", true)
  | 3 => ("TicketWeaver", "mails", "Ljava/util/ArrayList;", true)
  | 4 => ("TicketWeaver", "tickets", "Ljava/util/ArrayList;", true)
  | 5 => ("TicketWeaver", "agents", "Ljava/util/ArrayList;", true)
  | 6 => ("TicketWeaver", "preparedAnswers", "Ljava/util/ArrayList;", true)
  | 7 => ("TicketWeaver", "answersWithWord", "[I", true)
  | 8 => ("TicketWeaver", "scores", "[I", true)
  | 9 => ("TicketWeaver", "time", "I", false)
  | 10 => ("TicketWeaver", "breaches", "I", false)
  | 11 => ("TicketWeaver", "answers", "I", false)
  | 12 => ("TicketWeaver", "keptAnswers", "I", false)
  | 13 => ("TicketWeaver", "clocksOfAnswers", "J", false)
  | _ => ("TicketWeaver", "minutesOpen", "J", false)
def tyX6 : Nat → FieldType := fun k => match k with
  | 0 => .array .int
  | 1 => .array (.object "TicketWeaver$Customer")
  | 2 => .array (.object "TicketWeaver$TopicQueue")
  | 3 => .object "java/util/ArrayList"
  | 4 => .object "java/util/ArrayList"
  | 5 => .object "java/util/ArrayList"
  | 6 => .object "java/util/ArrayList"
  | 7 => .array .int
  | 8 => .array .int
  | 9 => .int
  | 10 => .int
  | 11 => .int
  | 12 => .int
  | 13 => .long
  | _ => .long
abbrev wsX60 : List Cond := u_ws RX6 TX6 15
theorem nmX6 : ∀ a, a < 15 → ∀ b, b < 15 → a ≠ b → (TX6 a).2.1 ≠ (TX6 b).2.1 := by decide +kernel
theorem tyX6_ok : ∀ k, k < 15 → parseFieldDescriptor (TX6 k).2.2.1 = some (tyX6 k) := by decide +kernel
abbrev cX6_init : ByteArray := prog_1_method_1_code
def yX6_init : MethodName := ⟨RX6, "<init>", "()V"⟩
abbrev cX6_pass : ByteArray := prog_1_method_2_code
def yX6_pass : MethodName := ⟨RX6, "pass", "(I)I"⟩
abbrev cX6_time : ByteArray := prog_1_method_3_code
def yX6_time : MethodName := ⟨RX6, "time", "()I"⟩
abbrev cX6_setClass : ByteArray := prog_1_method_4_code
def yX6_setClass : MethodName := ⟨RX6, "setClass", "(II)I"⟩
abbrev cX6_setPromise : ByteArray := prog_1_method_5_code
def yX6_setPromise : MethodName := ⟨RX6, "setPromise", "(II)I"⟩
abbrev cX6_mail : ByteArray := prog_1_method_6_code
def yX6_mail : MethodName := ⟨RX6, "mail", "(IIIII)I"⟩
abbrev cX6_ticketOf : ByteArray := prog_1_method_7_code
def yX6_ticketOf : MethodName := ⟨RX6, "ticketOf", "(I)I"⟩
abbrev cX6_mails : ByteArray := prog_1_method_8_code
def yX6_mails : MethodName := ⟨RX6, "mails", "()I"⟩
abbrev cX6_mailsOf : ByteArray := prog_1_method_9_code
def yX6_mailsOf : MethodName := ⟨RX6, "mailsOf", "(I)I"⟩
abbrev cX6_mailAt : ByteArray := prog_1_method_10_code
def yX6_mailAt : MethodName := ⟨RX6, "mailAt", "(II)I"⟩
abbrev cX6_tickets : ByteArray := prog_1_method_11_code
def yX6_tickets : MethodName := ⟨RX6, "tickets", "()I"⟩
abbrev cX6_stateOf : ByteArray := prog_1_method_12_code
def yX6_stateOf : MethodName := ⟨RX6, "stateOf", "(I)C"⟩
abbrev cX6_mergedInto : ByteArray := prog_1_method_13_code
def yX6_mergedInto : MethodName := ⟨RX6, "mergedInto", "(I)I"⟩
abbrev cX6_setTopic : ByteArray := prog_1_method_14_code
def yX6_setTopic : MethodName := ⟨RX6, "setTopic", "(II)I"⟩
abbrev cX6_clock : ByteArray := prog_1_method_15_code
def yX6_clock : MethodName := ⟨RX6, "clock", "(I)I"⟩
abbrev cX6_leftOf : ByteArray := prog_1_method_16_code
def yX6_leftOf : MethodName := ⟨RX6, "leftOf", "(I)I"⟩
abbrev cX6_isBreached : ByteArray := prog_1_method_17_code
def yX6_isBreached : MethodName := ⟨RX6, "isBreached", "(I)Z"⟩
abbrev cX6_addAgent : ByteArray := prog_1_method_18_code
def yX6_addAgent : MethodName := ⟨RX6, "addAgent", "(I)I"⟩
abbrev cX6_learn : ByteArray := prog_1_method_19_code
def yX6_learn : MethodName := ⟨RX6, "learn", "(II)I"⟩
abbrev cX6_setOnShift : ByteArray := prog_1_method_20_code
def yX6_setOnShift : MethodName := ⟨RX6, "setOnShift", "(IZ)Z"⟩
abbrev cX6_held : ByteArray := prog_1_method_21_code
def yX6_held : MethodName := ⟨RX6, "held", "(I)I"⟩
abbrev cX6_agentOf : ByteArray := prog_1_method_22_code
def yX6_agentOf : MethodName := ⟨RX6, "agentOf", "(I)I"⟩
abbrev cX6_nextFor : ByteArray := prog_1_method_23_code
def yX6_nextFor : MethodName := ⟨RX6, "nextFor", "(I)I"⟩
abbrev cX6_nextByTickets : ByteArray := prog_1_method_24_code
def yX6_nextByTickets : MethodName := ⟨RX6, "nextByTickets", "(I)I"⟩
abbrev cX6_waiting : ByteArray := prog_1_method_25_code
def yX6_waiting : MethodName := ⟨RX6, "waiting", "(I)I"⟩
abbrev cX6_take : ByteArray := prog_1_method_26_code
def yX6_take : MethodName := ⟨RX6, "take", "(I)I"⟩
abbrev cX6_handOver : ByteArray := prog_1_method_27_code
def yX6_handOver : MethodName := ⟨RX6, "handOver", "(II)I"⟩
abbrev cX6_giveBack : ByteArray := prog_1_method_28_code
def yX6_giveBack : MethodName := ⟨RX6, "giveBack", "(I)I"⟩
abbrev cX6_hold : ByteArray := prog_1_method_29_code
def yX6_hold : MethodName := ⟨RX6, "hold", "(I)I"⟩
abbrev cX6_resume : ByteArray := prog_1_method_30_code
def yX6_resume : MethodName := ⟨RX6, "resume", "(I)I"⟩
abbrev cX6_answer : ByteArray := prog_1_method_31_code
def yX6_answer : MethodName := ⟨RX6, "answer", "(II)I"⟩
abbrev cX6_close : ByteArray := prog_1_method_32_code
def yX6_close : MethodName := ⟨RX6, "close", "(I)I"⟩
abbrev cX6_merge : ByteArray := prog_1_method_33_code
def yX6_merge : MethodName := ⟨RX6, "merge", "(II)I"⟩
abbrev cX6_addAnswer : ByteArray := prog_1_method_34_code
def yX6_addAnswer : MethodName := ⟨RX6, "addAnswer", "(I)I"⟩
abbrev cX6_weight : ByteArray := prog_1_method_35_code
def yX6_weight : MethodName := ⟨RX6, "weight", "(II)I"⟩
abbrev cX6_suggestion : ByteArray := prog_1_method_36_code
def yX6_suggestion : MethodName := ⟨RX6, "suggestion", "(I)I"⟩
abbrev cX6_suggestionByWords : ByteArray := prog_1_method_37_code
def yX6_suggestionByWords : MethodName := ⟨RX6, "suggestionByWords", "(I)I"⟩
abbrev cX6_breaches : ByteArray := prog_1_method_38_code
def yX6_breaches : MethodName := ⟨RX6, "breaches", "()I"⟩
abbrev cX6_answers : ByteArray := prog_1_method_39_code
def yX6_answers : MethodName := ⟨RX6, "answers", "()I"⟩
abbrev cX6_minutesOpen : ByteArray := prog_1_method_40_code
def yX6_minutesOpen : MethodName := ⟨RX6, "minutesOpen", "()J"⟩
abbrev cX6_keptShare : ByteArray := prog_1_method_41_code
def yX6_keptShare : MethodName := ⟨RX6, "keptShare", "()F"⟩
abbrev cX6_meanClock : ByteArray := prog_1_method_42_code
def yX6_meanClock : MethodName := ⟨RX6, "meanClock", "()D"⟩
abbrev cX6_isSound : ByteArray := prog_1_method_43_code
def yX6_isSound : MethodName := ⟨RX6, "isSound", "()Z"⟩
abbrev cX6_isWithin : ByteArray := prog_1_method_44_code
def yX6_isWithin : MethodName := ⟨RX6, "isWithin", "(III)Z"⟩
abbrev cX6_isTopic : ByteArray := prog_1_method_45_code
def yX6_isTopic : MethodName := ⟨RX6, "isTopic", "(I)Z"⟩
abbrev cX6_areWords : ByteArray := prog_1_method_46_code
def yX6_areWords : MethodName := ⟨RX6, "areWords", "(I)Z"⟩
abbrev cX6_isAnswer : ByteArray := prog_1_method_47_code
def yX6_isAnswer : MethodName := ⟨RX6, "isAnswer", "(I)Z"⟩
abbrev cX6_ticketNumbered : ByteArray := prog_1_method_48_code
def yX6_ticketNumbered : MethodName := ⟨RX6, "ticketNumbered", "(I)LTicketWeaver$Ticket;"⟩
abbrev cX6_agentNumbered : ByteArray := prog_1_method_49_code
def yX6_agentNumbered : MethodName := ⟨RX6, "agentNumbered", "(I)LTicketWeaver$Agent;"⟩
abbrev cX6_requireOpenOrHeld : ByteArray := prog_1_method_50_code
def yX6_requireOpenOrHeld : MethodName := ⟨RX6, "requireOpenOrHeld", "(LTicketWeaver$Ticket;)V"⟩
abbrev cX6_ticketToJoin : ByteArray := prog_1_method_51_code
def yX6_ticketToJoin : MethodName := ⟨RX6, "ticketToJoin", "(LTicketWeaver$Customer;II)LTicketWeaver$Ticket;"⟩
abbrev cX6_latestWithSubject : ByteArray := prog_1_method_52_code
def yX6_latestWithSubject : MethodName := ⟨RX6, "latestWithSubject", "(LTicketWeaver$Customer;I)LTicketWeaver$Ticket;"⟩
abbrev cX6_addMail : ByteArray := prog_1_method_53_code
def yX6_addMail : MethodName := ⟨RX6, "addMail", "(LTicketWeaver$Ticket;I)V"⟩
abbrev cX6_leaveQueue : ByteArray := prog_1_method_54_code
def yX6_leaveQueue : MethodName := ⟨RX6, "leaveQueue", "(LTicketWeaver$Ticket;)V"⟩
abbrev cX6_joinQueue : ByteArray := prog_1_method_55_code
def yX6_joinQueue : MethodName := ⟨RX6, "joinQueue", "(LTicketWeaver$Ticket;)V"⟩
abbrev cX6_giveAllBack : ByteArray := prog_1_method_56_code
def yX6_giveAllBack : MethodName := ⟨RX6, "giveAllBack", "(LTicketWeaver$Agent;)V"⟩
abbrev cX6_orderQueuesAnew : ByteArray := prog_1_method_57_code
def yX6_orderQueuesAnew : MethodName := ⟨RX6, "orderQueuesAnew", "()V"⟩
abbrev cX6_nextFromQueues : ByteArray := prog_1_method_58_code
def yX6_nextFromQueues : MethodName := ⟨RX6, "nextFromQueues", "(LTicketWeaver$Agent;)LTicketWeaver$Ticket;"⟩
abbrev cX6_nextFromTickets : ByteArray := prog_1_method_59_code
def yX6_nextFromTickets : MethodName := ⟨RX6, "nextFromTickets", "(LTicketWeaver$Agent;)LTicketWeaver$Ticket;"⟩
abbrev cX6_earlierOf : ByteArray := prog_1_method_60_code
def yX6_earlierOf : MethodName := ⟨RX6, "earlierOf", "(LTicketWeaver$Ticket;LTicketWeaver$Ticket;)LTicketWeaver$Ticket;"⟩
abbrev cX6_bestFromAnswers : ByteArray := prog_1_method_61_code
def yX6_bestFromAnswers : MethodName := ⟨RX6, "bestFromAnswers", "(LTicketWeaver$Ticket;)I"⟩
abbrev cX6_bestFromWords : ByteArray := prog_1_method_62_code
def yX6_bestFromWords : MethodName := ⟨RX6, "bestFromWords", "(LTicketWeaver$Ticket;)I"⟩
abbrev cX6_scoreWords : ByteArray := prog_1_method_63_code
def yX6_scoreWords : MethodName := ⟨RX6, "scoreWords", "(I)V"⟩
abbrev cX6_scoreWord : ByteArray := prog_1_method_64_code
def yX6_scoreWord : MethodName := ⟨RX6, "scoreWord", "(I)V"⟩
abbrev cX6_countAnswer : ByteArray := prog_1_method_65_code
def yX6_countAnswer : MethodName := ⟨RX6, "countAnswer", "(LTicketWeaver$Ticket;)V"⟩
abbrev cX6_closedTickets : ByteArray := prog_1_method_66_code
def yX6_closedTickets : MethodName := ⟨RX6, "closedTickets", "()I"⟩
abbrev cX6_hasEachMailOnce : ByteArray := prog_1_method_67_code
def yX6_hasEachMailOnce : MethodName := ⟨RX6, "hasEachMailOnce", "()Z"⟩
abbrev cX6_agreesOnNextTickets : ByteArray := prog_1_method_68_code
def yX6_agreesOnNextTickets : MethodName := ⟨RX6, "agreesOnNextTickets", "()Z"⟩
def RX7 : String := "TicketWeaverModel"
def TX7 : u_T := fun k => match k with
  | 0 => ("TicketWeaverModel", "levels", "[I", true)
  | 1 => ("TicketWeaverModel", "promises", "[I", true)
  | 2 => ("TicketWeaverModel", "ticketsOf", "[I", true)
  | 3 => ("TicketWeaverModel", "words", "[I", true)
  | 4 => ("TicketWeaverModel", "customers", "[I", true)
  | 5 => ("TicketWeaverModel", "subjects", "[I", true)
  | 6 => ("TicketWeaverModel", "topics", "[I", true)
  | 7 => ("TicketWeaverModel", "clocks", "[I", true)
  | 8 => ("TicketWeaverModel", "agents", "[I", true)
  | 9 => ("TicketWeaverModel", "handed", "[I", true)
  | 10 => ("TicketWeaverModel", "closed", "[I", true)
  | 11 => ("TicketWeaverModel", "into", "[I", true)
  | 12 => ("TicketWeaverModel", "sent", "[I", true)
  | 13 => ("TicketWeaverModel", "states", "[C", true)
  | 14 => ("TicketWeaverModel", "areBreached", "[Z", true)
  | 15 => ("TicketWeaverModel", "areOn", "[Z", true)
  | 16 => ("TicketWeaverModel", "skills", "[I", true)
  | 17 => ("TicketWeaverModel", "answers", "[I", true)
  | 18 => ("TicketWeaverModel", "weights", "[I", true)
  | 19 => ("TicketWeaverModel", "thrown", "I", false)
  | 20 => ("TicketWeaverModel", "time", "I", false)
  | 21 => ("TicketWeaverModel", "mails", "I", false)
  | 22 => ("TicketWeaverModel", "tickets", "I", false)
  | 23 => ("TicketWeaverModel", "agentCount", "I", false)
  | 24 => ("TicketWeaverModel", "answerCount", "I", false)
  | 25 => ("TicketWeaverModel", "breaches", "I", false)
  | 26 => ("TicketWeaverModel", "sentCount", "I", false)
  | 27 => ("TicketWeaverModel", "kept", "I", false)
  | 28 => ("TicketWeaverModel", "clockSum", "I", false)
  | _ => ("TicketWeaverModel", "open", "J", false)
def tyX7 : Nat → FieldType := fun k => match k with
  | 0 => .array .int
  | 1 => .array .int
  | 2 => .array .int
  | 3 => .array .int
  | 4 => .array .int
  | 5 => .array .int
  | 6 => .array .int
  | 7 => .array .int
  | 8 => .array .int
  | 9 => .array .int
  | 10 => .array .int
  | 11 => .array .int
  | 12 => .array .int
  | 13 => .array .char
  | 14 => .array .boolean
  | 15 => .array .boolean
  | 16 => .array .int
  | 17 => .array .int
  | 18 => .array .int
  | 19 => .int
  | 20 => .int
  | 21 => .int
  | 22 => .int
  | 23 => .int
  | 24 => .int
  | 25 => .int
  | 26 => .int
  | 27 => .int
  | 28 => .int
  | _ => .long
abbrev wsX70 : List Cond := u_ws RX7 TX7 30
theorem nmX7 : ∀ a, a < 30 → ∀ b, b < 30 → a ≠ b → (TX7 a).2.1 ≠ (TX7 b).2.1 := by decide +kernel
theorem tyX7_ok : ∀ k, k < 30 → parseFieldDescriptor (TX7 k).2.2.1 = some (tyX7 k) := by decide +kernel
abbrev cX7_init : ByteArray := prog_9_method_1_code
def yX7_init : MethodName := ⟨RX7, "<init>", "()V"⟩
abbrev cX7_thrown : ByteArray := prog_9_method_2_code
def yX7_thrown : MethodName := ⟨RX7, "thrown", "()I"⟩
abbrev cX7_in : ByteArray := prog_9_method_3_code
def yX7_in : MethodName := ⟨RX7, "in", "(III)Z"⟩
abbrev cX7_plain : ByteArray := prog_9_method_4_code
def yX7_plain : MethodName := ⟨RX7, "plain", "(I)I"⟩
abbrev cX7_checked : ByteArray := prog_9_method_5_code
def yX7_checked : MethodName := ⟨RX7, "checked", "(Z)I"⟩
abbrev cX7_bits : ByteArray := prog_9_method_6_code
def yX7_bits : MethodName := ⟨RX7, "bits", "(I)I"⟩
abbrev cX7_isTicket : ByteArray := prog_9_method_7_code
def yX7_isTicket : MethodName := ⟨RX7, "isTicket", "(I)Z"⟩
abbrev cX7_isAgent : ByteArray := prog_9_method_8_code
def yX7_isAgent : MethodName := ⟨RX7, "isAgent", "(I)Z"⟩
abbrev cX7_isLive : ByteArray := prog_9_method_9_code
def yX7_isLive : MethodName := ⟨RX7, "isLive", "(I)Z"⟩
abbrev cX7_leftFor : ByteArray := prog_9_method_10_code
def yX7_leftFor : MethodName := ⟨RX7, "leftFor", "(I)I"⟩
abbrev cX7_minute : ByteArray := prog_9_method_11_code
def yX7_minute : MethodName := ⟨RX7, "minute", "()I"⟩
abbrev cX7_pass : ByteArray := prog_9_method_12_code
def yX7_pass : MethodName := ⟨RX7, "pass", "(I)I"⟩
abbrev cX7_time : ByteArray := prog_9_method_13_code
def yX7_time : MethodName := ⟨RX7, "time", "()I"⟩
abbrev cX7_setClass : ByteArray := prog_9_method_14_code
def yX7_setClass : MethodName := ⟨RX7, "setClass", "(II)I"⟩
abbrev cX7_setPromise : ByteArray := prog_9_method_15_code
def yX7_setPromise : MethodName := ⟨RX7, "setPromise", "(II)I"⟩
abbrev cX7_counts : ByteArray := prog_9_method_16_code
def yX7_counts : MethodName := ⟨RX7, "counts", "(I)Z"⟩
abbrev cX7_latest : ByteArray := prog_9_method_17_code
def yX7_latest : MethodName := ⟨RX7, "latest", "(I)I"⟩
abbrev cX7_joined : ByteArray := prog_9_method_18_code
def yX7_joined : MethodName := ⟨RX7, "joined", "(III)I"⟩
abbrev cX7_makes : ByteArray := prog_9_method_19_code
def yX7_makes : MethodName := ⟨RX7, "makes", "(III)V"⟩
abbrev cX7_learns : ByteArray := prog_9_method_20_code
def yX7_learns : MethodName := ⟨RX7, "learns", "(II)V"⟩
abbrev cX7_opens : ByteArray := prog_9_method_21_code
def yX7_opens : MethodName := ⟨RX7, "opens", "(I)V"⟩
abbrev cX7_mail : ByteArray := prog_9_method_22_code
def yX7_mail : MethodName := ⟨RX7, "mail", "(IIIII)I"⟩
abbrev cX7_ticketOf : ByteArray := prog_9_method_23_code
def yX7_ticketOf : MethodName := ⟨RX7, "ticketOf", "(I)I"⟩
abbrev cX7_mails : ByteArray := prog_9_method_24_code
def yX7_mails : MethodName := ⟨RX7, "mails", "()I"⟩
abbrev cX7_countOf : ByteArray := prog_9_method_25_code
def yX7_countOf : MethodName := ⟨RX7, "countOf", "(I)I"⟩
abbrev cX7_mailsOf : ByteArray := prog_9_method_26_code
def yX7_mailsOf : MethodName := ⟨RX7, "mailsOf", "(I)I"⟩
abbrev cX7_mailAt : ByteArray := prog_9_method_27_code
def yX7_mailAt : MethodName := ⟨RX7, "mailAt", "(II)I"⟩
abbrev cX7_tickets : ByteArray := prog_9_method_28_code
def yX7_tickets : MethodName := ⟨RX7, "tickets", "()I"⟩
abbrev cX7_stateOf : ByteArray := prog_9_method_29_code
def yX7_stateOf : MethodName := ⟨RX7, "stateOf", "(I)C"⟩
abbrev cX7_mergedInto : ByteArray := prog_9_method_30_code
def yX7_mergedInto : MethodName := ⟨RX7, "mergedInto", "(I)I"⟩
abbrev cX7_hasSkill : ByteArray := prog_9_method_31_code
def yX7_hasSkill : MethodName := ⟨RX7, "hasSkill", "(II)Z"⟩
abbrev cX7_setTopic : ByteArray := prog_9_method_32_code
def yX7_setTopic : MethodName := ⟨RX7, "setTopic", "(II)I"⟩
abbrev cX7_wrongLive : ByteArray := prog_9_method_33_code
def yX7_wrongLive : MethodName := ⟨RX7, "wrongLive", "(I)I"⟩
abbrev cX7_clock : ByteArray := prog_9_method_34_code
def yX7_clock : MethodName := ⟨RX7, "clock", "(I)I"⟩
abbrev cX7_leftOf : ByteArray := prog_9_method_35_code
def yX7_leftOf : MethodName := ⟨RX7, "leftOf", "(I)I"⟩
abbrev cX7_isBreached : ByteArray := prog_9_method_36_code
def yX7_isBreached : MethodName := ⟨RX7, "isBreached", "(I)Z"⟩
abbrev cX7_addAgent : ByteArray := prog_9_method_37_code
def yX7_addAgent : MethodName := ⟨RX7, "addAgent", "(I)I"⟩
abbrev cX7_learn : ByteArray := prog_9_method_38_code
def yX7_learn : MethodName := ⟨RX7, "learn", "(II)I"⟩
abbrev cX7_setOnShift : ByteArray := prog_9_method_39_code
def yX7_setOnShift : MethodName := ⟨RX7, "setOnShift", "(IZ)Z"⟩
abbrev cX7_heldBy : ByteArray := prog_9_method_40_code
def yX7_heldBy : MethodName := ⟨RX7, "heldBy", "(I)I"⟩
abbrev cX7_held : ByteArray := prog_9_method_41_code
def yX7_held : MethodName := ⟨RX7, "held", "(I)I"⟩
abbrev cX7_agentOf : ByteArray := prog_9_method_42_code
def yX7_agentOf : MethodName := ⟨RX7, "agentOf", "(I)I"⟩
abbrev cX7_canAnswer : ByteArray := prog_9_method_43_code
def yX7_canAnswer : MethodName := ⟨RX7, "canAnswer", "(II)Z"⟩
abbrev cX7_isFor : ByteArray := prog_9_method_44_code
def yX7_isFor : MethodName := ⟨RX7, "isFor", "(II)Z"⟩
abbrev cX7_isSooner : ByteArray := prog_9_method_45_code
def yX7_isSooner : MethodName := ⟨RX7, "isSooner", "(II)Z"⟩
abbrev cX7_next : ByteArray := prog_9_method_46_code
def yX7_next : MethodName := ⟨RX7, "next", "(I)I"⟩
abbrev cX7_nextFor : ByteArray := prog_9_method_47_code
def yX7_nextFor : MethodName := ⟨RX7, "nextFor", "(I)I"⟩
abbrev cX7_nextByTickets : ByteArray := prog_9_method_48_code
def yX7_nextByTickets : MethodName := ⟨RX7, "nextByTickets", "(I)I"⟩
abbrev cX7_waiting : ByteArray := prog_9_method_49_code
def yX7_waiting : MethodName := ⟨RX7, "waiting", "(I)I"⟩
abbrev cX7_take : ByteArray := prog_9_method_50_code
def yX7_take : MethodName := ⟨RX7, "take", "(I)I"⟩
abbrev cX7_handOver : ByteArray := prog_9_method_51_code
def yX7_handOver : MethodName := ⟨RX7, "handOver", "(II)I"⟩
abbrev cX7_giveBack : ByteArray := prog_9_method_52_code
def yX7_giveBack : MethodName := ⟨RX7, "giveBack", "(I)I"⟩
abbrev cX7_turns : ByteArray := prog_9_method_53_code
def yX7_turns : MethodName := ⟨RX7, "turns", "(ICC)I"⟩
abbrev cX7_hold : ByteArray := prog_9_method_54_code
def yX7_hold : MethodName := ⟨RX7, "hold", "(I)I"⟩
abbrev cX7_resume : ByteArray := prog_9_method_55_code
def yX7_resume : MethodName := ⟨RX7, "resume", "(I)I"⟩
abbrev cX7_answer : ByteArray := prog_9_method_56_code
def yX7_answer : MethodName := ⟨RX7, "answer", "(II)I"⟩
abbrev cX7_close : ByteArray := prog_9_method_57_code
def yX7_close : MethodName := ⟨RX7, "close", "(I)I"⟩
abbrev cX7_merge : ByteArray := prog_9_method_58_code
def yX7_merge : MethodName := ⟨RX7, "merge", "(II)I"⟩
abbrev cX7_addAnswer : ByteArray := prog_9_method_59_code
def yX7_addAnswer : MethodName := ⟨RX7, "addAnswer", "(I)I"⟩
abbrev cX7_weight : ByteArray := prog_9_method_60_code
def yX7_weight : MethodName := ⟨RX7, "weight", "(II)I"⟩
abbrev cX7_wordsOf : ByteArray := prog_9_method_61_code
def yX7_wordsOf : MethodName := ⟨RX7, "wordsOf", "(I)I"⟩
abbrev cX7_suggestion : ByteArray := prog_9_method_62_code
def yX7_suggestion : MethodName := ⟨RX7, "suggestion", "(I)I"⟩
abbrev cX7_suggestionByWords : ByteArray := prog_9_method_63_code
def yX7_suggestionByWords : MethodName := ⟨RX7, "suggestionByWords", "(I)I"⟩
abbrev cX7_breaches : ByteArray := prog_9_method_64_code
def yX7_breaches : MethodName := ⟨RX7, "breaches", "()I"⟩
abbrev cX7_answers : ByteArray := prog_9_method_65_code
def yX7_answers : MethodName := ⟨RX7, "answers", "()I"⟩
abbrev cX7_minutesOpen : ByteArray := prog_9_method_66_code
def yX7_minutesOpen : MethodName := ⟨RX7, "minutesOpen", "()J"⟩
abbrev cX7_keptShare : ByteArray := prog_9_method_67_code
def yX7_keptShare : MethodName := ⟨RX7, "keptShare", "()F"⟩
abbrev cX7_meanClock : ByteArray := prog_9_method_68_code
def yX7_meanClock : MethodName := ⟨RX7, "meanClock", "()D"⟩
abbrev cX7_isSound : ByteArray := prog_9_method_69_code
def yX7_isSound : MethodName := ⟨RX7, "isSound", "()Z"⟩
def RJ6 : String := "java/lang/Integer"
def TJ6 : u_T := fun k => match k with
  | _ => ("", "", "", false)
def tyJ6 : Nat → FieldType := fun k => match k with
  | _ => .int
abbrev wsJ60 : List Cond := u_ws RJ6 TJ6 0
theorem nmJ6 : ∀ a, a < 0 → ∀ b, b < 0 → a ≠ b → (TJ6 a).2.1 ≠ (TJ6 b).2.1 := by decide +kernel
theorem tyJ6_ok : ∀ k, k < 0 → parseFieldDescriptor (TJ6 k).2.2.1 = some (tyJ6 k) := by decide +kernel
abbrev cJ6_getChars_ba4f3 : ByteArray := prog_22_method_12_code
def yJ6_getChars_ba4f3 : MethodName := ⟨RJ6, "getChars", "(II[B)I"⟩
abbrev cJ6_stringSize_0f7a4 : ByteArray := prog_22_method_13_code
def yJ6_stringSize_0f7a4 : MethodName := ⟨RJ6, "stringSize", "(I)I"⟩
abbrev cJ6_bitCount_0f7a4 : ByteArray := prog_22_method_49_code
def yJ6_bitCount_0f7a4 : MethodName := ⟨RJ6, "bitCount", "(I)I"⟩
def RJ9 : String := "java/lang/Math"
def TJ9 : u_T := fun k => match k with
  | _ => ("", "", "", false)
def tyJ9 : Nat → FieldType := fun k => match k with
  | _ => .int
abbrev wsJ90 : List Cond := u_ws RJ9 TJ9 0
theorem nmJ9 : ∀ a, a < 0 → ∀ b, b < 0 → a ≠ b → (TJ9 a).2.1 ≠ (TJ9 b).2.1 := by decide +kernel
theorem tyJ9_ok : ∀ k, k < 0 → parseFieldDescriptor (TJ9 k).2.2.1 = some (tyJ9 k) := by decide +kernel
abbrev cJ9_max_7cf53 : ByteArray := prog_24_method_65_code
def yJ9_max_7cf53 : MethodName := ⟨RJ9, "max", "(II)I"⟩
abbrev cJ9_min_7cf53 : ByteArray := prog_24_method_69_code
def yJ9_min_7cf53 : MethodName := ⟨RJ9, "min", "(II)I"⟩
def RJxa1e45 : String := "java/util/AbstractCollection"
def TJxa1e45 : u_T := fun k => match k with
  | _ => ("", "", "", false)
def tyJxa1e45 : Nat → FieldType := fun k => match k with
  | _ => .int
abbrev wsJxa1e450 : List Cond := u_ws RJxa1e45 TJxa1e45 0
theorem nmJxa1e45 : ∀ a, a < 0 → ∀ b, b < 0 → a ≠ b → (TJxa1e45 a).2.1 ≠ (TJxa1e45 b).2.1 := by decide +kernel
theorem tyJxa1e45_ok : ∀ k, k < 0 → parseFieldDescriptor (TJxa1e45 k).2.2.1 = some (tyJxa1e45 k) := by decide +kernel
abbrev cJxa1e45_init_da8c8 : ByteArray := prog_36_method_1_code
def yJxa1e45_init_da8c8 : MethodName := ⟨RJxa1e45, "<init>", "()V"⟩
def RJxc12de : String := "java/util/AbstractList"
def TJxc12de : u_T := fun k => match k with
  | _ => ("", "", "", false)
def tyJxc12de : Nat → FieldType := fun k => match k with
  | _ => .int
abbrev wsJxc12de0 : List Cond := u_ws RJxc12de TJxc12de 0
theorem nmJxc12de : ∀ a, a < 0 → ∀ b, b < 0 → a ≠ b → (TJxc12de a).2.1 ≠ (TJxc12de b).2.1 := by decide +kernel
theorem tyJxc12de_ok : ∀ k, k < 0 → parseFieldDescriptor (TJxc12de k).2.2.1 = some (tyJxc12de k) := by decide +kernel
abbrev cJxc12de_init_da8c8 : ByteArray := prog_37_method_1_code
def yJxc12de_init_da8c8 : MethodName := ⟨RJxc12de, "<init>", "()V"⟩
def RJx4a65c : String := "java/util/ArrayList"
def TJx4a65c : u_T := fun k => match k with
  | 0 => ("java/util/AbstractList", "modCount", "I", false)
  | 1 => ("java/util/ArrayList", "elementData", "[Ljava/lang/Object;", false)
  | _ => ("java/util/ArrayList", "size", "I", false)
def tyJx4a65c : Nat → FieldType := fun k => match k with
  | 0 => .int
  | 1 => .array (.object "java/lang/Object")
  | _ => .int
abbrev wsJx4a65c0 : List Cond := u_ws RJx4a65c TJx4a65c 3
theorem nmJx4a65c : ∀ a, a < 3 → ∀ b, b < 3 → a ≠ b → (TJx4a65c a).2.1 ≠ (TJx4a65c b).2.1 := by decide +kernel
theorem tyJx4a65c_ok : ∀ k, k < 3 → parseFieldDescriptor (TJx4a65c k).2.2.1 = some (tyJx4a65c k) := by decide +kernel
abbrev cJx4a65c_init_da8c8 : ByteArray := prog_38_method_2_code
def yJx4a65c_init_da8c8 : MethodName := ⟨RJx4a65c, "<init>", "()V"⟩
abbrev cJx4a65c_grow_92f84 : ByteArray := prog_38_method_6_code
def yJx4a65c_grow_92f84 : MethodName := ⟨RJx4a65c, "grow", "(I)[Ljava/lang/Object;"⟩
abbrev cJx4a65c_grow_d5877 : ByteArray := prog_38_method_7_code
def yJx4a65c_grow_d5877 : MethodName := ⟨RJx4a65c, "grow", "()[Ljava/lang/Object;"⟩
abbrev cJx4a65c_size_8abf5 : ByteArray := prog_38_method_8_code
def yJx4a65c_size_8abf5 : MethodName := ⟨RJx4a65c, "size", "()I"⟩
abbrev cJx4a65c_isEmpty_aae02 : ByteArray := prog_38_method_9_code
def yJx4a65c_isEmpty_aae02 : MethodName := ⟨RJx4a65c, "isEmpty", "()Z"⟩
abbrev cJx4a65c_elementData_915e3 : ByteArray := prog_38_method_18_code
def yJx4a65c_elementData_915e3 : MethodName := ⟨RJx4a65c, "elementData", "(I)Ljava/lang/Object;"⟩
abbrev cJx4a65c_get_915e3 : ByteArray := prog_38_method_20_code
def yJx4a65c_get_915e3 : MethodName := ⟨RJx4a65c, "get", "(I)Ljava/lang/Object;"⟩
abbrev cJx4a65c_add_72be8 : ByteArray := prog_38_method_24_code
def yJx4a65c_add_72be8 : MethodName := ⟨RJx4a65c, "add", "(Ljava/lang/Object;[Ljava/lang/Object;I)V"⟩
abbrev cJx4a65c_add_9ea2d : ByteArray := prog_38_method_25_code
def yJx4a65c_add_9ea2d : MethodName := ⟨RJx4a65c, "add", "(Ljava/lang/Object;)Z"⟩
abbrev cJx4a65c_add_7a177 : ByteArray := prog_38_method_26_code
def yJx4a65c_add_7a177 : MethodName := ⟨RJx4a65c, "add", "(ILjava/lang/Object;)V"⟩
abbrev cJx4a65c_remove_915e3 : ByteArray := prog_38_method_29_code
def yJx4a65c_remove_915e3 : MethodName := ⟨RJx4a65c, "remove", "(I)Ljava/lang/Object;"⟩
abbrev cJx4a65c_fastRemove_b59b0 : ByteArray := prog_38_method_39_code
def yJx4a65c_fastRemove_b59b0 : MethodName := ⟨RJx4a65c, "fastRemove", "([Ljava/lang/Object;I)V"⟩
abbrev cJx4a65c_clear_da8c8 : ByteArray := prog_38_method_40_code
def yJx4a65c_clear_da8c8 : MethodName := ⟨RJx4a65c, "clear", "()V"⟩
abbrev cJx4a65c_rangeCheckForAdd_d00df : ByteArray := prog_38_method_45_code
def yJx4a65c_rangeCheckForAdd_d00df : MethodName := ⟨RJx4a65c, "rangeCheckForAdd", "(I)V"⟩
abbrev cJx4a65c_outOfBoundsMsg_b52d3 : ByteArray := prog_38_method_46_code
def yJx4a65c_outOfBoundsMsg_b52d3 : MethodName := ⟨RJx4a65c, "outOfBoundsMsg", "(I)Ljava/lang/String;"⟩
def RJ7 : String := "java/util/Arrays"
def TJ7 : u_T := fun k => match k with
  | _ => ("", "", "", false)
def tyJ7 : Nat → FieldType := fun k => match k with
  | _ => .int
abbrev wsJ70 : List Cond := u_ws RJ7 TJ7 0
theorem nmJ7 : ∀ a, a < 0 → ∀ b, b < 0 → a ≠ b → (TJ7 a).2.1 ≠ (TJ7 b).2.1 := by decide +kernel
theorem tyJ7_ok : ∀ k, k < 0 → parseFieldDescriptor (TJ7 k).2.2.1 = some (tyJ7 k) := by decide +kernel
abbrev cJ7_fill_53178 : ByteArray := prog_39_method_103_code
def yJ7_fill_53178 : MethodName := ⟨RJ7, "fill", "([II)V"⟩
abbrev cJ7_copyOf_1904c : ByteArray := prog_39_method_119_code
def yJ7_copyOf_1904c : MethodName := ⟨RJ7, "copyOf", "([Ljava/lang/Object;I)[Ljava/lang/Object;"⟩
abbrev cJ7_copyOf_6403c : ByteArray := prog_39_method_120_code
def yJ7_copyOf_6403c : MethodName := ⟨RJ7, "copyOf", "([Ljava/lang/Object;ILjava/lang/Class;)[Ljava/lang/Object;"⟩
abbrev cJ7_copyOf_9075b : ByteArray := prog_39_method_121_code
def yJ7_copyOf_9075b : MethodName := ⟨RJ7, "copyOf", "([BI)[B"⟩
abbrev cJ7_checkLength_df160 : ByteArray := prog_39_method_131_code
def yJ7_checkLength_df160 : MethodName := ⟨RJ7, "checkLength", "(II)V"⟩
abbrev cJ7_copyOfRange_39247 : ByteArray := prog_39_method_132_code
def yJ7_copyOfRange_39247 : MethodName := ⟨RJ7, "copyOfRange", "([BII)[B"⟩
abbrev cJ7_copyOfRangeByte_39247 : ByteArray := prog_39_method_133_code
def yJ7_copyOfRangeByte_39247 : MethodName := ⟨RJ7, "copyOfRangeByte", "([BII)[B"⟩
def RJ15 : String := "java/util/Objects"
def TJ15 : u_T := fun k => match k with
  | _ => ("", "", "", false)
def tyJ15 : Nat → FieldType := fun k => match k with
  | _ => .int
abbrev wsJ150 : List Cond := u_ws RJ15 TJ15 0
theorem nmJ15 : ∀ a, a < 0 → ∀ b, b < 0 → a ≠ b → (TJ15 a).2.1 ≠ (TJ15 b).2.1 := by decide +kernel
theorem tyJ15_ok : ∀ k, k < 0 → parseFieldDescriptor (TJ15 k).2.2.1 = some (tyJ15 k) := by decide +kernel
abbrev cJ15_checkIndex_7cf53 : ByteArray := prog_43_method_17_code
def yJ15_checkIndex_7cf53 : MethodName := ⟨RJ15, "checkIndex", "(II)I"⟩
def RJ8 : String := "jdk/internal/util/ArraysSupport"
def TJ8 : u_T := fun k => match k with
  | _ => ("", "", "", false)
def tyJ8 : Nat → FieldType := fun k => match k with
  | _ => .int
abbrev wsJ80 : List Cond := u_ws RJ8 TJ8 0
theorem nmJ8 : ∀ a, a < 0 → ∀ b, b < 0 → a ≠ b → (TJ8 a).2.1 ≠ (TJ8 b).2.1 := by decide +kernel
theorem tyJ8_ok : ∀ k, k < 0 → parseFieldDescriptor (TJ8 k).2.2.1 = some (tyJ8 k) := by decide +kernel
abbrev cJ8_newLength_cabcc : ByteArray := prog_46_method_27_code
def yJ8_newLength_cabcc : MethodName := ⟨RJ8, "newLength", "(III)I"⟩
abbrev cJ8_hugeLength_7cf53 : ByteArray := prog_46_method_28_code
def yJ8_hugeLength_7cf53 : MethodName := ⟨RJ8, "hugeLength", "(II)I"⟩
def RJ3 : String := "jdk/internal/util/Preconditions"
def TJ3 : u_T := fun k => match k with
  | _ => ("", "", "", false)
def tyJ3 : Nat → FieldType := fun k => match k with
  | _ => .int
abbrev wsJ30 : List Cond := u_ws RJ3 TJ3 0
theorem nmJ3 : ∀ a, a < 0 → ∀ b, b < 0 → a ≠ b → (TJ3 a).2.1 ≠ (TJ3 b).2.1 := by decide +kernel
theorem tyJ3_ok : ∀ k, k < 0 → parseFieldDescriptor (TJ3 k).2.2.1 = some (tyJ3 k) := by decide +kernel
abbrev cJ3_checkIndex_8e157 : ByteArray := prog_47_method_11_code
def yJ3_checkIndex_8e157 : MethodName := ⟨RJ3, "checkIndex", "(IILjava/util/function/BiFunction;)I"⟩
abbrev cJ3_checkFromToIndex_8c36e : ByteArray := prog_47_method_12_code
def yJ3_checkFromToIndex_8c36e : MethodName := ⟨RJ3, "checkFromToIndex", "(IIILjava/util/function/BiFunction;)I"⟩
abbrev cJ3_checkFromIndexSize_8c36e : ByteArray := prog_47_method_13_code
def yJ3_checkFromIndexSize_8c36e : MethodName := ⟨RJ3, "checkFromIndexSize", "(IIILjava/util/function/BiFunction;)I"⟩
def RL : String := "TicketWeaverLaw"
abbrev cL_pass : ByteArray := method_3_code
def yL_pass : MethodName := ⟨RL, "pass", "(LTicketWeaver;I[J)I"⟩
abbrev cL_setClass : ByteArray := method_4_code
def yL_setClass : MethodName := ⟨RL, "setClass", "(LTicketWeaver;II[J)I"⟩
abbrev cL_setPromise : ByteArray := method_5_code
def yL_setPromise : MethodName := ⟨RL, "setPromise", "(LTicketWeaver;II[J)I"⟩
abbrev cL_mail : ByteArray := method_6_code
def yL_mail : MethodName := ⟨RL, "mail", "(LTicketWeaver;IIIII[J)I"⟩
abbrev cL_ticketOf : ByteArray := method_7_code
def yL_ticketOf : MethodName := ⟨RL, "ticketOf", "(LTicketWeaver;I[J)I"⟩
abbrev cL_mailsOf : ByteArray := method_8_code
def yL_mailsOf : MethodName := ⟨RL, "mailsOf", "(LTicketWeaver;I[J)I"⟩
abbrev cL_mailAt : ByteArray := method_9_code
def yL_mailAt : MethodName := ⟨RL, "mailAt", "(LTicketWeaver;II[J)I"⟩
abbrev cL_stateOf : ByteArray := method_10_code
def yL_stateOf : MethodName := ⟨RL, "stateOf", "(LTicketWeaver;I[J)I"⟩
abbrev cL_mergedInto : ByteArray := method_11_code
def yL_mergedInto : MethodName := ⟨RL, "mergedInto", "(LTicketWeaver;I[J)I"⟩
abbrev cL_setTopic : ByteArray := method_12_code
def yL_setTopic : MethodName := ⟨RL, "setTopic", "(LTicketWeaver;II[J)I"⟩
abbrev cL_clock : ByteArray := method_13_code
def yL_clock : MethodName := ⟨RL, "clock", "(LTicketWeaver;I[J)I"⟩
abbrev cL_leftOf : ByteArray := method_14_code
def yL_leftOf : MethodName := ⟨RL, "leftOf", "(LTicketWeaver;I[J)I"⟩
abbrev cL_isBreached : ByteArray := method_15_code
def yL_isBreached : MethodName := ⟨RL, "isBreached", "(LTicketWeaver;I[J)I"⟩
abbrev cL_addAgent : ByteArray := method_16_code
def yL_addAgent : MethodName := ⟨RL, "addAgent", "(LTicketWeaver;I[J)I"⟩
abbrev cL_learn : ByteArray := method_17_code
def yL_learn : MethodName := ⟨RL, "learn", "(LTicketWeaver;II[J)I"⟩
abbrev cL_setOnShift : ByteArray := method_18_code
def yL_setOnShift : MethodName := ⟨RL, "setOnShift", "(LTicketWeaver;IZ[J)I"⟩
abbrev cL_held : ByteArray := method_19_code
def yL_held : MethodName := ⟨RL, "held", "(LTicketWeaver;I[J)I"⟩
abbrev cL_agentOf : ByteArray := method_20_code
def yL_agentOf : MethodName := ⟨RL, "agentOf", "(LTicketWeaver;I[J)I"⟩
abbrev cL_nextFor : ByteArray := method_21_code
def yL_nextFor : MethodName := ⟨RL, "nextFor", "(LTicketWeaver;I[J)I"⟩
abbrev cL_nextByTickets : ByteArray := method_22_code
def yL_nextByTickets : MethodName := ⟨RL, "nextByTickets", "(LTicketWeaver;I[J)I"⟩
abbrev cL_waiting : ByteArray := method_23_code
def yL_waiting : MethodName := ⟨RL, "waiting", "(LTicketWeaver;I[J)I"⟩
abbrev cL_take : ByteArray := method_24_code
def yL_take : MethodName := ⟨RL, "take", "(LTicketWeaver;I[J)I"⟩
abbrev cL_handOver : ByteArray := method_25_code
def yL_handOver : MethodName := ⟨RL, "handOver", "(LTicketWeaver;II[J)I"⟩
abbrev cL_giveBack : ByteArray := method_26_code
def yL_giveBack : MethodName := ⟨RL, "giveBack", "(LTicketWeaver;I[J)I"⟩
abbrev cL_hold : ByteArray := method_27_code
def yL_hold : MethodName := ⟨RL, "hold", "(LTicketWeaver;I[J)I"⟩
abbrev cL_resume : ByteArray := method_28_code
def yL_resume : MethodName := ⟨RL, "resume", "(LTicketWeaver;I[J)I"⟩
abbrev cL_answer : ByteArray := method_29_code
def yL_answer : MethodName := ⟨RL, "answer", "(LTicketWeaver;II[J)I"⟩
abbrev cL_close : ByteArray := method_30_code
def yL_close : MethodName := ⟨RL, "close", "(LTicketWeaver;I[J)I"⟩
abbrev cL_merge : ByteArray := method_31_code
def yL_merge : MethodName := ⟨RL, "merge", "(LTicketWeaver;II[J)I"⟩
abbrev cL_addAnswer : ByteArray := method_32_code
def yL_addAnswer : MethodName := ⟨RL, "addAnswer", "(LTicketWeaver;I[J)I"⟩
abbrev cL_weight : ByteArray := method_33_code
def yL_weight : MethodName := ⟨RL, "weight", "(LTicketWeaver;II[J)I"⟩
abbrev cL_suggestion : ByteArray := method_34_code
def yL_suggestion : MethodName := ⟨RL, "suggestion", "(LTicketWeaver;I[J)I"⟩
abbrev cL_suggestionByWords : ByteArray := method_35_code
def yL_suggestionByWords : MethodName := ⟨RL, "suggestionByWords", "(LTicketWeaver;I[J)I"⟩
abbrev cL_keptShare : ByteArray := method_36_code
def yL_keptShare : MethodName := ⟨RL, "keptShare", "(LTicketWeaver;[D)I"⟩
abbrev cL_meanClock : ByteArray := method_37_code
def yL_meanClock : MethodName := ⟨RL, "meanClock", "(LTicketWeaver;[D)I"⟩
abbrev cL_law : ByteArray := code
def yL_law : MethodName := ⟨RL, "law", "([I)Z"⟩
end
section
theorem dX0_init_0 : decode cX0_init 0 = .ok (.aload_n 0, 1) := by decide +kernel
theorem dX0_init_1 : decode cX0_init 1 = .ok (.invokespecial 1, 3) := by decide +kernel
theorem dX0_init_4 : decode cX0_init 4 = .ok (.aload_n 0, 1) := by decide +kernel
theorem dX0_init_5 : decode cX0_init 5 = .ok (.iload_n 1, 1) := by decide +kernel
theorem dX0_init_6 : decode cX0_init 6 = .ok (.putfield 7, 3) := by decide +kernel
theorem dX0_init_9 : decode cX0_init 9 = .ok (.aload_n 0, 1) := by decide +kernel
theorem dX0_init_10 : decode cX0_init 10 = .ok (.iload_n 2, 1) := by decide +kernel
theorem dX0_init_11 : decode cX0_init 11 = .ok (.putfield 13, 3) := by decide +kernel
theorem dX0_init_14 : decode cX0_init 14 = .ok (.return_, 1) := by decide +kernel
theorem dX0_hasSkill_0 : decode cX0_hasSkill 0 = .ok (.aload_n 0, 1) := by decide +kernel
theorem dX0_hasSkill_1 : decode cX0_hasSkill 1 = .ok (.getfield 13, 3) := by decide +kernel
theorem dX0_hasSkill_4 : decode cX0_hasSkill 4 = .ok (.iload_n 1, 1) := by decide +kernel
theorem dX0_hasSkill_5 : decode cX0_hasSkill 5 = .ok (.ishr, 1) := by decide +kernel
theorem dX0_hasSkill_6 : decode cX0_hasSkill 6 = .ok (.iconst 1, 1) := by decide +kernel
theorem dX0_hasSkill_7 : decode cX0_hasSkill 7 = .ok (.iand, 1) := by decide +kernel
theorem dX0_hasSkill_8 : decode cX0_hasSkill 8 = .ok (.iconst 1, 1) := by decide +kernel
theorem dX0_hasSkill_9 : decode cX0_hasSkill 9 = .ok (.if_icmp .ne 7, 3) := by decide +kernel
theorem dX0_hasSkill_12 : decode cX0_hasSkill 12 = .ok (.iconst 1, 1) := by decide +kernel
theorem dX0_hasSkill_13 : decode cX0_hasSkill 13 = .ok (.goto 4, 3) := by decide +kernel
theorem dX0_hasSkill_16 : decode cX0_hasSkill 16 = .ok (.iconst 0, 1) := by decide +kernel
theorem dX0_hasSkill_17 : decode cX0_hasSkill 17 = .ok (.ireturn, 1) := by decide +kernel
theorem dX0_canAnswer_0 : decode cX0_canAnswer 0 = .ok (.aload_n 0, 1) := by decide +kernel
theorem dX0_canAnswer_1 : decode cX0_canAnswer 1 = .ok (.getfield 16, 3) := by decide +kernel
theorem dX0_canAnswer_4 : decode cX0_canAnswer 4 = .ok (.ifCond .eq 15, 3) := by decide +kernel
theorem dX0_canAnswer_7 : decode cX0_canAnswer 7 = .ok (.aload_n 0, 1) := by decide +kernel
theorem dX0_canAnswer_8 : decode cX0_canAnswer 8 = .ok (.iload_n 1, 1) := by decide +kernel
theorem dX0_canAnswer_9 : decode cX0_canAnswer 9 = .ok (.invokevirtual 20, 3) := by decide +kernel
theorem dX0_canAnswer_12 : decode cX0_canAnswer 12 = .ok (.ifCond .eq 7, 3) := by decide +kernel
theorem dX0_canAnswer_15 : decode cX0_canAnswer 15 = .ok (.iconst 1, 1) := by decide +kernel
theorem dX0_canAnswer_16 : decode cX0_canAnswer 16 = .ok (.goto 4, 3) := by decide +kernel
theorem dX0_canAnswer_19 : decode cX0_canAnswer 19 = .ok (.iconst 0, 1) := by decide +kernel
theorem dX0_canAnswer_20 : decode cX0_canAnswer 20 = .ok (.ireturn, 1) := by decide +kernel
theorem dX1_init_0 : decode cX1_init 0 = .ok (.aload_n 0, 1) := by decide +kernel
theorem dX1_init_1 : decode cX1_init 1 = .ok (.invokespecial 1, 3) := by decide +kernel
theorem dX1_init_4 : decode cX1_init 4 = .ok (.aload_n 0, 1) := by decide +kernel
theorem dX1_init_5 : decode cX1_init 5 = .ok (.aload_n 1, 1) := by decide +kernel
theorem dX1_init_6 : decode cX1_init 6 = .ok (.putfield 7, 3) := by decide +kernel
theorem dX1_init_9 : decode cX1_init 9 = .ok (.return_, 1) := by decide +kernel
theorem dX2_init_0 : decode cX2_init 0 = .ok (.aload_n 0, 1) := by decide +kernel
theorem dX2_init_1 : decode cX2_init 1 = .ok (.invokespecial 1, 3) := by decide +kernel
theorem dX2_init_4 : decode cX2_init 4 = .ok (.aload_n 0, 1) := by decide +kernel
theorem dX2_init_5 : decode cX2_init 5 = .ok (.iload_n 1, 1) := by decide +kernel
theorem dX2_init_6 : decode cX2_init 6 = .ok (.putfield 7, 3) := by decide +kernel
theorem dX2_init_9 : decode cX2_init 9 = .ok (.aload_n 0, 1) := by decide +kernel
theorem dX2_init_10 : decode cX2_init 10 = .ok (.aload_n 2, 1) := by decide +kernel
theorem dX2_init_11 : decode cX2_init 11 = .ok (.putfield 13, 3) := by decide +kernel
theorem dX2_init_14 : decode cX2_init 14 = .ok (.return_, 1) := by decide +kernel
theorem dX3_init_0 : decode cX3_init 0 = .ok (.aload_n 0, 1) := by decide +kernel
theorem dX3_init_1 : decode cX3_init 1 = .ok (.invokespecial 3, 3) := by decide +kernel
theorem dX3_init_4 : decode cX3_init 4 = .ok (.aload_n 0, 1) := by decide +kernel
theorem dX3_init_5 : decode cX3_init 5 = .ok (.iload_n 1, 1) := by decide +kernel
theorem dX3_init_6 : decode cX3_init 6 = .ok (.putfield 9, 3) := by decide +kernel
theorem dX3_init_9 : decode cX3_init 9 = .ok (.aload_n 0, 1) := by decide +kernel
theorem dX3_init_10 : decode cX3_init 10 = .ok (.bipush 6, 2) := by decide +kernel
theorem dX3_init_12 : decode cX3_init 12 = .ok (.newarray .int, 2) := by decide +kernel
theorem dX3_init_14 : decode cX3_init 14 = .ok (.putfield 15, 3) := by decide +kernel
theorem dX3_init_17 : decode cX3_init 17 = .ok (.return_, 1) := by decide +kernel
theorem dX3_gainWeight_0 : decode cX3_gainWeight 0 = .ok (.aload_n 0, 1) := by decide +kernel
theorem dX3_gainWeight_1 : decode cX3_gainWeight 1 = .ok (.getfield 15, 3) := by decide +kernel
theorem dX3_gainWeight_4 : decode cX3_gainWeight 4 = .ok (.iload_n 1, 1) := by decide +kernel
theorem dX3_gainWeight_5 : decode cX3_gainWeight 5 = .ok (.aload_n 0, 1) := by decide +kernel
theorem dX3_gainWeight_6 : decode cX3_gainWeight 6 = .ok (.getfield 15, 3) := by decide +kernel
theorem dX3_gainWeight_9 : decode cX3_gainWeight 9 = .ok (.iload_n 1, 1) := by decide +kernel
theorem dX3_gainWeight_10 : decode cX3_gainWeight 10 = .ok (.iaload, 1) := by decide +kernel
theorem dX3_gainWeight_11 : decode cX3_gainWeight 11 = .ok (.iconst 1, 1) := by decide +kernel
theorem dX3_gainWeight_12 : decode cX3_gainWeight 12 = .ok (.iadd, 1) := by decide +kernel
theorem dX3_gainWeight_13 : decode cX3_gainWeight 13 = .ok (.bipush 9, 2) := by decide +kernel
theorem dX3_gainWeight_15 : decode cX3_gainWeight 15 = .ok (.invokestatic 19, 3) := by decide +kernel
theorem dX3_gainWeight_18 : decode cX3_gainWeight 18 = .ok (.iastore, 1) := by decide +kernel
theorem dX3_gainWeight_19 : decode cX3_gainWeight 19 = .ok (.return_, 1) := by decide +kernel
theorem dX3_loseWeight_0 : decode cX3_loseWeight 0 = .ok (.aload_n 0, 1) := by decide +kernel
theorem dX3_loseWeight_1 : decode cX3_loseWeight 1 = .ok (.getfield 15, 3) := by decide +kernel
theorem dX3_loseWeight_4 : decode cX3_loseWeight 4 = .ok (.iload_n 1, 1) := by decide +kernel
theorem dX3_loseWeight_5 : decode cX3_loseWeight 5 = .ok (.aload_n 0, 1) := by decide +kernel
theorem dX3_loseWeight_6 : decode cX3_loseWeight 6 = .ok (.getfield 15, 3) := by decide +kernel
theorem dX3_loseWeight_9 : decode cX3_loseWeight 9 = .ok (.iload_n 1, 1) := by decide +kernel
theorem dX3_loseWeight_10 : decode cX3_loseWeight 10 = .ok (.iaload, 1) := by decide +kernel
theorem dX3_loseWeight_11 : decode cX3_loseWeight 11 = .ok (.iconst 1, 1) := by decide +kernel
theorem dX3_loseWeight_12 : decode cX3_loseWeight 12 = .ok (.isub, 1) := by decide +kernel
theorem dX3_loseWeight_13 : decode cX3_loseWeight 13 = .ok (.iconst 0, 1) := by decide +kernel
theorem dX3_loseWeight_14 : decode cX3_loseWeight 14 = .ok (.invokestatic 25, 3) := by decide +kernel
theorem dX3_loseWeight_17 : decode cX3_loseWeight 17 = .ok (.iastore, 1) := by decide +kernel
theorem dX3_loseWeight_18 : decode cX3_loseWeight 18 = .ok (.return_, 1) := by decide +kernel
theorem dX4_init_0 : decode cX4_init 0 = .ok (.aload_n 0, 1) := by decide +kernel
theorem dX4_init_1 : decode cX4_init 1 = .ok (.invokespecial 3, 3) := by decide +kernel
theorem dX4_init_4 : decode cX4_init 4 = .ok (.aload_n 0, 1) := by decide +kernel
theorem dX4_init_5 : decode cX4_init 5 = .ok (.iload_n 1, 1) := by decide +kernel
theorem dX4_init_6 : decode cX4_init 6 = .ok (.putfield 9, 3) := by decide +kernel
theorem dX4_init_9 : decode cX4_init 9 = .ok (.aload_n 0, 1) := by decide +kernel
theorem dX4_init_10 : decode cX4_init 10 = .ok (.aload_n 2, 1) := by decide +kernel
theorem dX4_init_11 : decode cX4_init 11 = .ok (.putfield 15, 3) := by decide +kernel
theorem dX4_init_14 : decode cX4_init 14 = .ok (.aload_n 0, 1) := by decide +kernel
theorem dX4_init_15 : decode cX4_init 15 = .ok (.iload_n 3, 1) := by decide +kernel
theorem dX4_init_16 : decode cX4_init 16 = .ok (.putfield 19, 3) := by decide +kernel
theorem dX4_init_19 : decode cX4_init 19 = .ok (.aload_n 0, 1) := by decide +kernel
theorem dX4_init_20 : decode cX4_init 20 = .ok (.iload 4, 2) := by decide +kernel
theorem dX4_init_22 : decode cX4_init 22 = .ok (.putfield 22, 3) := by decide +kernel
theorem dX4_init_25 : decode cX4_init 25 = .ok (.aload_n 0, 1) := by decide +kernel
theorem dX4_init_26 : decode cX4_init 26 = .ok (.new 25, 3) := by decide +kernel
theorem dX4_init_29 : decode cX4_init 29 = .ok (.dup, 1) := by decide +kernel
theorem dX4_init_30 : decode cX4_init 30 = .ok (.invokespecial 27, 3) := by decide +kernel
theorem dX4_init_33 : decode cX4_init 33 = .ok (.putfield 28, 3) := by decide +kernel
theorem dX4_init_36 : decode cX4_init 36 = .ok (.aload_n 0, 1) := by decide +kernel
theorem dX4_init_37 : decode cX4_init 37 = .ok (.bipush 111, 2) := by decide +kernel
theorem dX4_init_39 : decode cX4_init 39 = .ok (.putfield 32, 3) := by decide +kernel
theorem dX4_init_42 : decode cX4_init 42 = .ok (.return_, 1) := by decide +kernel
theorem dX4_isOpenOrHeld_0 : decode cX4_isOpenOrHeld 0 = .ok (.aload_n 0, 1) := by decide +kernel
theorem dX4_isOpenOrHeld_1 : decode cX4_isOpenOrHeld 1 = .ok (.getfield 32, 3) := by decide +kernel
theorem dX4_isOpenOrHeld_4 : decode cX4_isOpenOrHeld 4 = .ok (.bipush 111, 2) := by decide +kernel
theorem dX4_isOpenOrHeld_6 : decode cX4_isOpenOrHeld 6 = .ok (.if_icmp .eq 12, 3) := by decide +kernel
theorem dX4_isOpenOrHeld_9 : decode cX4_isOpenOrHeld 9 = .ok (.aload_n 0, 1) := by decide +kernel
theorem dX4_isOpenOrHeld_10 : decode cX4_isOpenOrHeld 10 = .ok (.getfield 32, 3) := by decide +kernel
theorem dX4_isOpenOrHeld_13 : decode cX4_isOpenOrHeld 13 = .ok (.bipush 104, 2) := by decide +kernel
theorem dX4_isOpenOrHeld_15 : decode cX4_isOpenOrHeld 15 = .ok (.if_icmp .ne 7, 3) := by decide +kernel
theorem dX4_isOpenOrHeld_18 : decode cX4_isOpenOrHeld 18 = .ok (.iconst 1, 1) := by decide +kernel
theorem dX4_isOpenOrHeld_19 : decode cX4_isOpenOrHeld 19 = .ok (.goto 4, 3) := by decide +kernel
theorem dX4_isOpenOrHeld_22 : decode cX4_isOpenOrHeld 22 = .ok (.iconst 0, 1) := by decide +kernel
theorem dX4_isOpenOrHeld_23 : decode cX4_isOpenOrHeld 23 = .ok (.ireturn, 1) := by decide +kernel
theorem dX4_isWaiting_0 : decode cX4_isWaiting 0 = .ok (.aload_n 0, 1) := by decide +kernel
theorem dX4_isWaiting_1 : decode cX4_isWaiting 1 = .ok (.getfield 32, 3) := by decide +kernel
theorem dX4_isWaiting_4 : decode cX4_isWaiting 4 = .ok (.bipush 111, 2) := by decide +kernel
theorem dX4_isWaiting_6 : decode cX4_isWaiting 6 = .ok (.if_icmp .ne 14, 3) := by decide +kernel
theorem dX4_isWaiting_9 : decode cX4_isWaiting 9 = .ok (.aload_n 0, 1) := by decide +kernel
theorem dX4_isWaiting_10 : decode cX4_isWaiting 10 = .ok (.getfield 36, 3) := by decide +kernel
theorem dX4_isWaiting_13 : decode cX4_isWaiting 13 = .ok (.ifnonnull 7, 3) := by decide +kernel
theorem dX4_isWaiting_16 : decode cX4_isWaiting 16 = .ok (.iconst 1, 1) := by decide +kernel
theorem dX4_isWaiting_17 : decode cX4_isWaiting 17 = .ok (.goto 4, 3) := by decide +kernel
theorem dX4_isWaiting_20 : decode cX4_isWaiting 20 = .ok (.iconst 0, 1) := by decide +kernel
theorem dX4_isWaiting_21 : decode cX4_isWaiting 21 = .ok (.ireturn, 1) := by decide +kernel
theorem dX4_canBeJoined_0 : decode cX4_canBeJoined 0 = .ok (.aload_n 0, 1) := by decide +kernel
theorem dX4_canBeJoined_1 : decode cX4_canBeJoined 1 = .ok (.getfield 32, 3) := by decide +kernel
theorem dX4_canBeJoined_4 : decode cX4_canBeJoined 4 = .ok (.bipush 99, 2) := by decide +kernel
theorem dX4_canBeJoined_6 : decode cX4_canBeJoined 6 = .ok (.if_icmp .ne 21, 3) := by decide +kernel
theorem dX4_canBeJoined_9 : decode cX4_canBeJoined 9 = .ok (.iload_n 1, 1) := by decide +kernel
theorem dX4_canBeJoined_10 : decode cX4_canBeJoined 10 = .ok (.aload_n 0, 1) := by decide +kernel
theorem dX4_canBeJoined_11 : decode cX4_canBeJoined 11 = .ok (.getfield 40, 3) := by decide +kernel
theorem dX4_canBeJoined_14 : decode cX4_canBeJoined 14 = .ok (.isub, 1) := by decide +kernel
theorem dX4_canBeJoined_15 : decode cX4_canBeJoined 15 = .ok (.sipush 1440, 3) := by decide +kernel
theorem dX4_canBeJoined_18 : decode cX4_canBeJoined 18 = .ok (.if_icmp .gt 7, 3) := by decide +kernel
theorem dX4_canBeJoined_21 : decode cX4_canBeJoined 21 = .ok (.iconst 1, 1) := by decide +kernel
theorem dX4_canBeJoined_22 : decode cX4_canBeJoined 22 = .ok (.goto 4, 3) := by decide +kernel
theorem dX4_canBeJoined_25 : decode cX4_canBeJoined 25 = .ok (.iconst 0, 1) := by decide +kernel
theorem dX4_canBeJoined_26 : decode cX4_canBeJoined 26 = .ok (.ireturn, 1) := by decide +kernel
theorem dX4_canBeJoined_27 : decode cX4_canBeJoined 27 = .ok (.aload_n 0, 1) := by decide +kernel
theorem dX4_canBeJoined_28 : decode cX4_canBeJoined 28 = .ok (.getfield 32, 3) := by decide +kernel
theorem dX4_canBeJoined_31 : decode cX4_canBeJoined 31 = .ok (.bipush 109, 2) := by decide +kernel
theorem dX4_canBeJoined_33 : decode cX4_canBeJoined 33 = .ok (.if_icmp .eq 7, 3) := by decide +kernel
theorem dX4_canBeJoined_36 : decode cX4_canBeJoined 36 = .ok (.iconst 1, 1) := by decide +kernel
theorem dX4_canBeJoined_37 : decode cX4_canBeJoined 37 = .ok (.goto 4, 3) := by decide +kernel
theorem dX4_canBeJoined_40 : decode cX4_canBeJoined 40 = .ok (.iconst 0, 1) := by decide +kernel
theorem dX4_canBeJoined_41 : decode cX4_canBeJoined 41 = .ok (.ireturn, 1) := by decide +kernel
theorem dX4_minutesLeft_0 : decode cX4_minutesLeft 0 = .ok (.aload_n 0, 1) := by decide +kernel
theorem dX4_minutesLeft_1 : decode cX4_minutesLeft 1 = .ok (.getfield 15, 3) := by decide +kernel
theorem dX4_minutesLeft_4 : decode cX4_minutesLeft 4 = .ok (.getfield 43, 3) := by decide +kernel
theorem dX4_minutesLeft_7 : decode cX4_minutesLeft 7 = .ok (.aload_n 0, 1) := by decide +kernel
theorem dX4_minutesLeft_8 : decode cX4_minutesLeft 8 = .ok (.getfield 15, 3) := by decide +kernel
theorem dX4_minutesLeft_11 : decode cX4_minutesLeft 11 = .ok (.getfield 49, 3) := by decide +kernel
theorem dX4_minutesLeft_14 : decode cX4_minutesLeft 14 = .ok (.iaload, 1) := by decide +kernel
theorem dX4_minutesLeft_15 : decode cX4_minutesLeft 15 = .ok (.aload_n 0, 1) := by decide +kernel
theorem dX4_minutesLeft_16 : decode cX4_minutesLeft 16 = .ok (.getfield 52, 3) := by decide +kernel
theorem dX4_minutesLeft_19 : decode cX4_minutesLeft 19 = .ok (.isub, 1) := by decide +kernel
theorem dX4_minutesLeft_20 : decode cX4_minutesLeft 20 = .ok (.ireturn, 1) := by decide +kernel
theorem dX4_isBefore_0 : decode cX4_isBefore 0 = .ok (.aload_n 0, 1) := by decide +kernel
theorem dX4_isBefore_1 : decode cX4_isBefore 1 = .ok (.invokevirtual 55, 3) := by decide +kernel
theorem dX4_isBefore_4 : decode cX4_isBefore 4 = .ok (.aload_n 1, 1) := by decide +kernel
theorem dX4_isBefore_5 : decode cX4_isBefore 5 = .ok (.invokevirtual 55, 3) := by decide +kernel
theorem dX4_isBefore_8 : decode cX4_isBefore 8 = .ok (.if_icmp .eq 20, 3) := by decide +kernel
theorem dX4_isBefore_11 : decode cX4_isBefore 11 = .ok (.aload_n 0, 1) := by decide +kernel
theorem dX4_isBefore_12 : decode cX4_isBefore 12 = .ok (.invokevirtual 55, 3) := by decide +kernel
theorem dX4_isBefore_15 : decode cX4_isBefore 15 = .ok (.aload_n 1, 1) := by decide +kernel
theorem dX4_isBefore_16 : decode cX4_isBefore 16 = .ok (.invokevirtual 55, 3) := by decide +kernel
theorem dX4_isBefore_19 : decode cX4_isBefore 19 = .ok (.if_icmp .ge 7, 3) := by decide +kernel
theorem dX4_isBefore_22 : decode cX4_isBefore 22 = .ok (.iconst 1, 1) := by decide +kernel
theorem dX4_isBefore_23 : decode cX4_isBefore 23 = .ok (.goto 4, 3) := by decide +kernel
theorem dX4_isBefore_26 : decode cX4_isBefore 26 = .ok (.iconst 0, 1) := by decide +kernel
theorem dX4_isBefore_27 : decode cX4_isBefore 27 = .ok (.ireturn, 1) := by decide +kernel
theorem dX4_isBefore_28 : decode cX4_isBefore 28 = .ok (.aload_n 0, 1) := by decide +kernel
theorem dX4_isBefore_29 : decode cX4_isBefore 29 = .ok (.getfield 15, 3) := by decide +kernel
theorem dX4_isBefore_32 : decode cX4_isBefore 32 = .ok (.getfield 49, 3) := by decide +kernel
theorem dX4_isBefore_35 : decode cX4_isBefore 35 = .ok (.aload_n 1, 1) := by decide +kernel
theorem dX4_isBefore_36 : decode cX4_isBefore 36 = .ok (.getfield 15, 3) := by decide +kernel
theorem dX4_isBefore_39 : decode cX4_isBefore 39 = .ok (.getfield 49, 3) := by decide +kernel
theorem dX4_isBefore_42 : decode cX4_isBefore 42 = .ok (.if_icmp .eq 26, 3) := by decide +kernel
theorem dX4_isBefore_45 : decode cX4_isBefore 45 = .ok (.aload_n 0, 1) := by decide +kernel
theorem dX4_isBefore_46 : decode cX4_isBefore 46 = .ok (.getfield 15, 3) := by decide +kernel
theorem dX4_isBefore_49 : decode cX4_isBefore 49 = .ok (.getfield 49, 3) := by decide +kernel
theorem dX4_isBefore_52 : decode cX4_isBefore 52 = .ok (.aload_n 1, 1) := by decide +kernel
theorem dX4_isBefore_53 : decode cX4_isBefore 53 = .ok (.getfield 15, 3) := by decide +kernel
theorem dX4_isBefore_56 : decode cX4_isBefore 56 = .ok (.getfield 49, 3) := by decide +kernel
theorem dX4_isBefore_59 : decode cX4_isBefore 59 = .ok (.if_icmp .le 7, 3) := by decide +kernel
theorem dX4_isBefore_62 : decode cX4_isBefore 62 = .ok (.iconst 1, 1) := by decide +kernel
theorem dX4_isBefore_63 : decode cX4_isBefore 63 = .ok (.goto 4, 3) := by decide +kernel
theorem dX4_isBefore_66 : decode cX4_isBefore 66 = .ok (.iconst 0, 1) := by decide +kernel
theorem dX4_isBefore_67 : decode cX4_isBefore 67 = .ok (.ireturn, 1) := by decide +kernel
theorem dX4_isBefore_68 : decode cX4_isBefore 68 = .ok (.aload_n 0, 1) := by decide +kernel
theorem dX4_isBefore_69 : decode cX4_isBefore 69 = .ok (.getfield 9, 3) := by decide +kernel
theorem dX4_isBefore_72 : decode cX4_isBefore 72 = .ok (.aload_n 1, 1) := by decide +kernel
theorem dX4_isBefore_73 : decode cX4_isBefore 73 = .ok (.getfield 9, 3) := by decide +kernel
theorem dX4_isBefore_76 : decode cX4_isBefore 76 = .ok (.if_icmp .ge 7, 3) := by decide +kernel
theorem dX4_isBefore_79 : decode cX4_isBefore 79 = .ok (.iconst 1, 1) := by decide +kernel
theorem dX4_isBefore_80 : decode cX4_isBefore 80 = .ok (.goto 4, 3) := by decide +kernel
theorem dX4_isBefore_83 : decode cX4_isBefore 83 = .ok (.iconst 0, 1) := by decide +kernel
theorem dX4_isBefore_84 : decode cX4_isBefore 84 = .ok (.ireturn, 1) := by decide +kernel
theorem dX4_countMinutes_0 : decode cX4_countMinutes 0 = .ok (.aload_n 0, 1) := by decide +kernel
theorem dX4_countMinutes_1 : decode cX4_countMinutes 1 = .ok (.dup, 1) := by decide +kernel
theorem dX4_countMinutes_2 : decode cX4_countMinutes 2 = .ok (.getfield 52, 3) := by decide +kernel
theorem dX4_countMinutes_5 : decode cX4_countMinutes 5 = .ok (.iload_n 1, 1) := by decide +kernel
theorem dX4_countMinutes_6 : decode cX4_countMinutes 6 = .ok (.iadd, 1) := by decide +kernel
theorem dX4_countMinutes_7 : decode cX4_countMinutes 7 = .ok (.putfield 52, 3) := by decide +kernel
theorem dX4_countMinutes_10 : decode cX4_countMinutes 10 = .ok (.aload_n 0, 1) := by decide +kernel
theorem dX4_countMinutes_11 : decode cX4_countMinutes 11 = .ok (.getfield 59, 3) := by decide +kernel
theorem dX4_countMinutes_14 : decode cX4_countMinutes 14 = .ok (.ifCond .ne 10, 3) := by decide +kernel
theorem dX4_countMinutes_17 : decode cX4_countMinutes 17 = .ok (.aload_n 0, 1) := by decide +kernel
theorem dX4_countMinutes_18 : decode cX4_countMinutes 18 = .ok (.invokevirtual 55, 3) := by decide +kernel
theorem dX4_countMinutes_21 : decode cX4_countMinutes 21 = .ok (.ifCond .lt 5, 3) := by decide +kernel
theorem dX4_countMinutes_24 : decode cX4_countMinutes 24 = .ok (.iconst 0, 1) := by decide +kernel
theorem dX4_countMinutes_25 : decode cX4_countMinutes 25 = .ok (.ireturn, 1) := by decide +kernel
theorem dX4_countMinutes_26 : decode cX4_countMinutes 26 = .ok (.aload_n 0, 1) := by decide +kernel
theorem dX4_countMinutes_27 : decode cX4_countMinutes 27 = .ok (.iconst 1, 1) := by decide +kernel
theorem dX4_countMinutes_28 : decode cX4_countMinutes 28 = .ok (.putfield 59, 3) := by decide +kernel
theorem dX4_countMinutes_31 : decode cX4_countMinutes 31 = .ok (.iconst 1, 1) := by decide +kernel
theorem dX4_countMinutes_32 : decode cX4_countMinutes 32 = .ok (.ireturn, 1) := by decide +kernel
theorem dX4_beginAnew_0 : decode cX4_beginAnew 0 = .ok (.aload_n 0, 1) := by decide +kernel
theorem dX4_beginAnew_1 : decode cX4_beginAnew 1 = .ok (.getfield 63, 3) := by decide +kernel
theorem dX4_beginAnew_4 : decode cX4_beginAnew 4 = .ok (.ifnull 14, 3) := by decide +kernel
theorem dX4_beginAnew_7 : decode cX4_beginAnew 7 = .ok (.aload_n 0, 1) := by decide +kernel
theorem dX4_beginAnew_8 : decode cX4_beginAnew 8 = .ok (.getfield 63, 3) := by decide +kernel
theorem dX4_beginAnew_11 : decode cX4_beginAnew 11 = .ok (.aload_n 0, 1) := by decide +kernel
theorem dX4_beginAnew_12 : decode cX4_beginAnew 12 = .ok (.getfield 22, 3) := by decide +kernel
theorem dX4_beginAnew_15 : decode cX4_beginAnew 15 = .ok (.invokevirtual 67, 3) := by decide +kernel
theorem dX4_beginAnew_18 : decode cX4_beginAnew 18 = .ok (.aload_n 0, 1) := by decide +kernel
theorem dX4_beginAnew_19 : decode cX4_beginAnew 19 = .ok (.aconst_null, 1) := by decide +kernel
theorem dX4_beginAnew_20 : decode cX4_beginAnew 20 = .ok (.putfield 63, 3) := by decide +kernel
theorem dX4_beginAnew_23 : decode cX4_beginAnew 23 = .ok (.aload_n 0, 1) := by decide +kernel
theorem dX4_beginAnew_24 : decode cX4_beginAnew 24 = .ok (.bipush 111, 2) := by decide +kernel
theorem dX4_beginAnew_26 : decode cX4_beginAnew 26 = .ok (.putfield 32, 3) := by decide +kernel
theorem dX4_beginAnew_29 : decode cX4_beginAnew 29 = .ok (.aload_n 0, 1) := by decide +kernel
theorem dX4_beginAnew_30 : decode cX4_beginAnew 30 = .ok (.iconst 0, 1) := by decide +kernel
theorem dX4_beginAnew_31 : decode cX4_beginAnew 31 = .ok (.putfield 52, 3) := by decide +kernel
theorem dX4_beginAnew_34 : decode cX4_beginAnew 34 = .ok (.aload_n 0, 1) := by decide +kernel
theorem dX4_beginAnew_35 : decode cX4_beginAnew 35 = .ok (.iconst 0, 1) := by decide +kernel
theorem dX4_beginAnew_36 : decode cX4_beginAnew 36 = .ok (.putfield 59, 3) := by decide +kernel
theorem dX4_beginAnew_39 : decode cX4_beginAnew 39 = .ok (.return_, 1) := by decide +kernel
theorem dX4_joinAgent_0 : decode cX4_joinAgent 0 = .ok (.aload_n 0, 1) := by decide +kernel
theorem dX4_joinAgent_1 : decode cX4_joinAgent 1 = .ok (.aload_n 1, 1) := by decide +kernel
theorem dX4_joinAgent_2 : decode cX4_joinAgent 2 = .ok (.putfield 36, 3) := by decide +kernel
theorem dX4_joinAgent_5 : decode cX4_joinAgent 5 = .ok (.aload_n 1, 1) := by decide +kernel
theorem dX4_joinAgent_6 : decode cX4_joinAgent 6 = .ok (.dup, 1) := by decide +kernel
theorem dX4_joinAgent_7 : decode cX4_joinAgent 7 = .ok (.getfield 73, 3) := by decide +kernel
theorem dX4_joinAgent_10 : decode cX4_joinAgent 10 = .ok (.iconst 1, 1) := by decide +kernel
theorem dX4_joinAgent_11 : decode cX4_joinAgent 11 = .ok (.iadd, 1) := by decide +kernel
theorem dX4_joinAgent_12 : decode cX4_joinAgent 12 = .ok (.putfield 73, 3) := by decide +kernel
theorem dX4_joinAgent_15 : decode cX4_joinAgent 15 = .ok (.return_, 1) := by decide +kernel
theorem dX4_leaveAgent_0 : decode cX4_leaveAgent 0 = .ok (.aload_n 0, 1) := by decide +kernel
theorem dX4_leaveAgent_1 : decode cX4_leaveAgent 1 = .ok (.getfield 36, 3) := by decide +kernel
theorem dX4_leaveAgent_4 : decode cX4_leaveAgent 4 = .ok (.ifnull 16, 3) := by decide +kernel
theorem dX4_leaveAgent_7 : decode cX4_leaveAgent 7 = .ok (.aload_n 0, 1) := by decide +kernel
theorem dX4_leaveAgent_8 : decode cX4_leaveAgent 8 = .ok (.getfield 36, 3) := by decide +kernel
theorem dX4_leaveAgent_11 : decode cX4_leaveAgent 11 = .ok (.dup, 1) := by decide +kernel
theorem dX4_leaveAgent_12 : decode cX4_leaveAgent 12 = .ok (.getfield 73, 3) := by decide +kernel
theorem dX4_leaveAgent_15 : decode cX4_leaveAgent 15 = .ok (.iconst 1, 1) := by decide +kernel
theorem dX4_leaveAgent_16 : decode cX4_leaveAgent 16 = .ok (.isub, 1) := by decide +kernel
theorem dX4_leaveAgent_17 : decode cX4_leaveAgent 17 = .ok (.putfield 73, 3) := by decide +kernel
theorem dX4_leaveAgent_20 : decode cX4_leaveAgent 20 = .ok (.aload_n 0, 1) := by decide +kernel
theorem dX4_leaveAgent_21 : decode cX4_leaveAgent 21 = .ok (.aconst_null, 1) := by decide +kernel
theorem dX4_leaveAgent_22 : decode cX4_leaveAgent 22 = .ok (.putfield 36, 3) := by decide +kernel
theorem dX4_leaveAgent_25 : decode cX4_leaveAgent 25 = .ok (.return_, 1) := by decide +kernel
theorem dX4_insertMail_0 : decode cX4_insertMail 0 = .ok (.aload_n 0, 1) := by decide +kernel
theorem dX4_insertMail_1 : decode cX4_insertMail 1 = .ok (.getfield 28, 3) := by decide +kernel
theorem dX4_insertMail_4 : decode cX4_insertMail 4 = .ok (.invokevirtual 78, 3) := by decide +kernel
theorem dX4_insertMail_7 : decode cX4_insertMail 7 = .ok (.istore_n 2, 1) := by decide +kernel
theorem dX4_insertMail_8 : decode cX4_insertMail 8 = .ok (.iload_n 2, 1) := by decide +kernel
theorem dX4_insertMail_9 : decode cX4_insertMail 9 = .ok (.ifCond .le 32, 3) := by decide +kernel
theorem dX4_insertMail_12 : decode cX4_insertMail 12 = .ok (.aload_n 0, 1) := by decide +kernel
theorem dX4_insertMail_13 : decode cX4_insertMail 13 = .ok (.getfield 28, 3) := by decide +kernel
theorem dX4_insertMail_16 : decode cX4_insertMail 16 = .ok (.iload_n 2, 1) := by decide +kernel
theorem dX4_insertMail_17 : decode cX4_insertMail 17 = .ok (.iconst 1, 1) := by decide +kernel
theorem dX4_insertMail_18 : decode cX4_insertMail 18 = .ok (.isub, 1) := by decide +kernel
theorem dX4_insertMail_19 : decode cX4_insertMail 19 = .ok (.invokevirtual 81, 3) := by decide +kernel
theorem dX4_insertMail_22 : decode cX4_insertMail 22 = .ok (.checkcast 85, 3) := by decide +kernel
theorem dX4_insertMail_25 : decode cX4_insertMail 25 = .ok (.getfield 87, 3) := by decide +kernel
theorem dX4_insertMail_28 : decode cX4_insertMail 28 = .ok (.aload_n 1, 1) := by decide +kernel
theorem dX4_insertMail_29 : decode cX4_insertMail 29 = .ok (.getfield 87, 3) := by decide +kernel
theorem dX4_insertMail_32 : decode cX4_insertMail 32 = .ok (.if_icmp .le 9, 3) := by decide +kernel
theorem dX4_insertMail_35 : decode cX4_insertMail 35 = .ok (.iinc 2 (-1), 3) := by decide +kernel
theorem dX4_insertMail_38 : decode cX4_insertMail 38 = .ok (.goto (-30), 3) := by decide +kernel
theorem dX4_insertMail_41 : decode cX4_insertMail 41 = .ok (.aload_n 0, 1) := by decide +kernel
theorem dX4_insertMail_42 : decode cX4_insertMail 42 = .ok (.getfield 28, 3) := by decide +kernel
theorem dX4_insertMail_45 : decode cX4_insertMail 45 = .ok (.iload_n 2, 1) := by decide +kernel
theorem dX4_insertMail_46 : decode cX4_insertMail 46 = .ok (.aload_n 1, 1) := by decide +kernel
theorem dX4_insertMail_47 : decode cX4_insertMail 47 = .ok (.invokevirtual 88, 3) := by decide +kernel
theorem dX4_insertMail_50 : decode cX4_insertMail 50 = .ok (.aload_n 1, 1) := by decide +kernel
theorem dX4_insertMail_51 : decode cX4_insertMail 51 = .ok (.aload_n 0, 1) := by decide +kernel
theorem dX4_insertMail_52 : decode cX4_insertMail 52 = .ok (.putfield 92, 3) := by decide +kernel
theorem dX4_insertMail_55 : decode cX4_insertMail 55 = .ok (.return_, 1) := by decide +kernel
theorem dX4_lastMail_0 : decode cX4_lastMail 0 = .ok (.aload_n 0, 1) := by decide +kernel
theorem dX4_lastMail_1 : decode cX4_lastMail 1 = .ok (.getfield 28, 3) := by decide +kernel
theorem dX4_lastMail_4 : decode cX4_lastMail 4 = .ok (.invokevirtual 96, 3) := by decide +kernel
theorem dX4_lastMail_7 : decode cX4_lastMail 7 = .ok (.ifCond .eq 7, 3) := by decide +kernel
theorem dX4_lastMail_10 : decode cX4_lastMail 10 = .ok (.iconst (-1), 1) := by decide +kernel
theorem dX4_lastMail_11 : decode cX4_lastMail 11 = .ok (.goto 25, 3) := by decide +kernel
theorem dX4_lastMail_14 : decode cX4_lastMail 14 = .ok (.aload_n 0, 1) := by decide +kernel
theorem dX4_lastMail_15 : decode cX4_lastMail 15 = .ok (.getfield 28, 3) := by decide +kernel
theorem dX4_lastMail_18 : decode cX4_lastMail 18 = .ok (.aload_n 0, 1) := by decide +kernel
theorem dX4_lastMail_19 : decode cX4_lastMail 19 = .ok (.getfield 28, 3) := by decide +kernel
theorem dX4_lastMail_22 : decode cX4_lastMail 22 = .ok (.invokevirtual 78, 3) := by decide +kernel
theorem dX4_lastMail_25 : decode cX4_lastMail 25 = .ok (.iconst 1, 1) := by decide +kernel
theorem dX4_lastMail_26 : decode cX4_lastMail 26 = .ok (.isub, 1) := by decide +kernel
theorem dX4_lastMail_27 : decode cX4_lastMail 27 = .ok (.invokevirtual 81, 3) := by decide +kernel
theorem dX4_lastMail_30 : decode cX4_lastMail 30 = .ok (.checkcast 85, 3) := by decide +kernel
theorem dX4_lastMail_33 : decode cX4_lastMail 33 = .ok (.getfield 87, 3) := by decide +kernel
theorem dX4_lastMail_36 : decode cX4_lastMail 36 = .ok (.ireturn, 1) := by decide +kernel
theorem dX4_takeOver_0 : decode cX4_takeOver 0 = .ok (.iconst 0, 1) := by decide +kernel
theorem dX4_takeOver_1 : decode cX4_takeOver 1 = .ok (.istore_n 2, 1) := by decide +kernel
theorem dX4_takeOver_2 : decode cX4_takeOver 2 = .ok (.iload_n 2, 1) := by decide +kernel
theorem dX4_takeOver_3 : decode cX4_takeOver 3 = .ok (.aload_n 1, 1) := by decide +kernel
theorem dX4_takeOver_4 : decode cX4_takeOver 4 = .ok (.getfield 28, 3) := by decide +kernel
theorem dX4_takeOver_7 : decode cX4_takeOver 7 = .ok (.invokevirtual 78, 3) := by decide +kernel
theorem dX4_takeOver_10 : decode cX4_takeOver 10 = .ok (.if_icmp .ge 24, 3) := by decide +kernel
theorem dX4_takeOver_13 : decode cX4_takeOver 13 = .ok (.aload_n 0, 1) := by decide +kernel
theorem dX4_takeOver_14 : decode cX4_takeOver 14 = .ok (.aload_n 1, 1) := by decide +kernel
theorem dX4_takeOver_15 : decode cX4_takeOver 15 = .ok (.getfield 28, 3) := by decide +kernel
theorem dX4_takeOver_18 : decode cX4_takeOver 18 = .ok (.iload_n 2, 1) := by decide +kernel
theorem dX4_takeOver_19 : decode cX4_takeOver 19 = .ok (.invokevirtual 81, 3) := by decide +kernel
theorem dX4_takeOver_22 : decode cX4_takeOver 22 = .ok (.checkcast 85, 3) := by decide +kernel
theorem dX4_takeOver_25 : decode cX4_takeOver 25 = .ok (.invokevirtual 100, 3) := by decide +kernel
theorem dX4_takeOver_28 : decode cX4_takeOver 28 = .ok (.iinc 2 1, 3) := by decide +kernel
theorem dX4_takeOver_31 : decode cX4_takeOver 31 = .ok (.goto (-29), 3) := by decide +kernel
theorem dX4_takeOver_34 : decode cX4_takeOver 34 = .ok (.aload_n 0, 1) := by decide +kernel
theorem dX4_takeOver_35 : decode cX4_takeOver 35 = .ok (.dup, 1) := by decide +kernel
theorem dX4_takeOver_36 : decode cX4_takeOver 36 = .ok (.getfield 104, 3) := by decide +kernel
theorem dX4_takeOver_39 : decode cX4_takeOver 39 = .ok (.aload_n 1, 1) := by decide +kernel
theorem dX4_takeOver_40 : decode cX4_takeOver 40 = .ok (.getfield 104, 3) := by decide +kernel
theorem dX4_takeOver_43 : decode cX4_takeOver 43 = .ok (.ior, 1) := by decide +kernel
theorem dX4_takeOver_44 : decode cX4_takeOver 44 = .ok (.putfield 104, 3) := by decide +kernel
theorem dX4_takeOver_47 : decode cX4_takeOver 47 = .ok (.aload_n 0, 1) := by decide +kernel
theorem dX4_takeOver_48 : decode cX4_takeOver 48 = .ok (.aload_n 0, 1) := by decide +kernel
theorem dX4_takeOver_49 : decode cX4_takeOver 49 = .ok (.getfield 52, 3) := by decide +kernel
theorem dX4_takeOver_52 : decode cX4_takeOver 52 = .ok (.aload_n 1, 1) := by decide +kernel
theorem dX4_takeOver_53 : decode cX4_takeOver 53 = .ok (.getfield 52, 3) := by decide +kernel
theorem dX4_takeOver_56 : decode cX4_takeOver 56 = .ok (.invokestatic 107, 3) := by decide +kernel
theorem dX4_takeOver_59 : decode cX4_takeOver 59 = .ok (.putfield 52, 3) := by decide +kernel
theorem dX4_takeOver_62 : decode cX4_takeOver 62 = .ok (.aload_n 0, 1) := by decide +kernel
theorem dX4_takeOver_63 : decode cX4_takeOver 63 = .ok (.aload_n 0, 1) := by decide +kernel
theorem dX4_takeOver_64 : decode cX4_takeOver 64 = .ok (.getfield 59, 3) := by decide +kernel
theorem dX4_takeOver_67 : decode cX4_takeOver 67 = .ok (.ifCond .ne 10, 3) := by decide +kernel
theorem dX4_takeOver_70 : decode cX4_takeOver 70 = .ok (.aload_n 1, 1) := by decide +kernel
theorem dX4_takeOver_71 : decode cX4_takeOver 71 = .ok (.getfield 59, 3) := by decide +kernel
theorem dX4_takeOver_74 : decode cX4_takeOver 74 = .ok (.ifCond .eq 7, 3) := by decide +kernel
theorem dX4_takeOver_77 : decode cX4_takeOver 77 = .ok (.iconst 1, 1) := by decide +kernel
theorem dX4_takeOver_78 : decode cX4_takeOver 78 = .ok (.goto 4, 3) := by decide +kernel
theorem dX4_takeOver_81 : decode cX4_takeOver 81 = .ok (.iconst 0, 1) := by decide +kernel
theorem dX4_takeOver_82 : decode cX4_takeOver 82 = .ok (.putfield 59, 3) := by decide +kernel
theorem dX4_takeOver_85 : decode cX4_takeOver 85 = .ok (.aload_n 1, 1) := by decide +kernel
theorem dX4_takeOver_86 : decode cX4_takeOver 86 = .ok (.getfield 28, 3) := by decide +kernel
theorem dX4_takeOver_89 : decode cX4_takeOver 89 = .ok (.invokevirtual 113, 3) := by decide +kernel
theorem dX4_takeOver_92 : decode cX4_takeOver 92 = .ok (.aload_n 1, 1) := by decide +kernel
theorem dX4_takeOver_93 : decode cX4_takeOver 93 = .ok (.iconst 0, 1) := by decide +kernel
theorem dX4_takeOver_94 : decode cX4_takeOver 94 = .ok (.putfield 104, 3) := by decide +kernel
theorem dX4_takeOver_97 : decode cX4_takeOver 97 = .ok (.aload_n 1, 1) := by decide +kernel
theorem dX4_takeOver_98 : decode cX4_takeOver 98 = .ok (.bipush 109, 2) := by decide +kernel
theorem dX4_takeOver_100 : decode cX4_takeOver 100 = .ok (.putfield 32, 3) := by decide +kernel
theorem dX4_takeOver_103 : decode cX4_takeOver 103 = .ok (.aload_n 1, 1) := by decide +kernel
theorem dX4_takeOver_104 : decode cX4_takeOver 104 = .ok (.aload_n 0, 1) := by decide +kernel
theorem dX4_takeOver_105 : decode cX4_takeOver 105 = .ok (.putfield 116, 3) := by decide +kernel
theorem dX4_takeOver_108 : decode cX4_takeOver 108 = .ok (.return_, 1) := by decide +kernel
theorem dX4_ownsItsMails_0 : decode cX4_ownsItsMails 0 = .ok (.iconst 0, 1) := by decide +kernel
theorem dX4_ownsItsMails_1 : decode cX4_ownsItsMails 1 = .ok (.istore_n 1, 1) := by decide +kernel
theorem dX4_ownsItsMails_2 : decode cX4_ownsItsMails 2 = .ok (.iload_n 1, 1) := by decide +kernel
theorem dX4_ownsItsMails_3 : decode cX4_ownsItsMails 3 = .ok (.aload_n 0, 1) := by decide +kernel
theorem dX4_ownsItsMails_4 : decode cX4_ownsItsMails 4 = .ok (.getfield 28, 3) := by decide +kernel
theorem dX4_ownsItsMails_7 : decode cX4_ownsItsMails 7 = .ok (.invokevirtual 78, 3) := by decide +kernel
theorem dX4_ownsItsMails_10 : decode cX4_ownsItsMails 10 = .ok (.if_icmp .ge 76, 3) := by decide +kernel
theorem dX4_ownsItsMails_13 : decode cX4_ownsItsMails 13 = .ok (.iload_n 1, 1) := by decide +kernel
theorem dX4_ownsItsMails_14 : decode cX4_ownsItsMails 14 = .ok (.ifCond .eq 36, 3) := by decide +kernel
theorem dX4_ownsItsMails_17 : decode cX4_ownsItsMails 17 = .ok (.aload_n 0, 1) := by decide +kernel
theorem dX4_ownsItsMails_18 : decode cX4_ownsItsMails 18 = .ok (.getfield 28, 3) := by decide +kernel
theorem dX4_ownsItsMails_21 : decode cX4_ownsItsMails 21 = .ok (.iload_n 1, 1) := by decide +kernel
theorem dX4_ownsItsMails_22 : decode cX4_ownsItsMails 22 = .ok (.iconst 1, 1) := by decide +kernel
theorem dX4_ownsItsMails_23 : decode cX4_ownsItsMails 23 = .ok (.isub, 1) := by decide +kernel
theorem dX4_ownsItsMails_24 : decode cX4_ownsItsMails 24 = .ok (.invokevirtual 81, 3) := by decide +kernel
theorem dX4_ownsItsMails_27 : decode cX4_ownsItsMails 27 = .ok (.checkcast 85, 3) := by decide +kernel
theorem dX4_ownsItsMails_30 : decode cX4_ownsItsMails 30 = .ok (.getfield 87, 3) := by decide +kernel
theorem dX4_ownsItsMails_33 : decode cX4_ownsItsMails 33 = .ok (.aload_n 0, 1) := by decide +kernel
theorem dX4_ownsItsMails_34 : decode cX4_ownsItsMails 34 = .ok (.getfield 28, 3) := by decide +kernel
theorem dX4_ownsItsMails_37 : decode cX4_ownsItsMails 37 = .ok (.iload_n 1, 1) := by decide +kernel
theorem dX4_ownsItsMails_38 : decode cX4_ownsItsMails 38 = .ok (.invokevirtual 81, 3) := by decide +kernel
theorem dX4_ownsItsMails_41 : decode cX4_ownsItsMails 41 = .ok (.checkcast 85, 3) := by decide +kernel
theorem dX4_ownsItsMails_44 : decode cX4_ownsItsMails 44 = .ok (.getfield 87, 3) := by decide +kernel
theorem dX4_ownsItsMails_47 : decode cX4_ownsItsMails 47 = .ok (.if_icmp .ge 7, 3) := by decide +kernel
theorem dX4_ownsItsMails_50 : decode cX4_ownsItsMails 50 = .ok (.iconst 1, 1) := by decide +kernel
theorem dX4_ownsItsMails_51 : decode cX4_ownsItsMails 51 = .ok (.goto 4, 3) := by decide +kernel
theorem dX4_ownsItsMails_54 : decode cX4_ownsItsMails 54 = .ok (.iconst 0, 1) := by decide +kernel
theorem dX4_ownsItsMails_55 : decode cX4_ownsItsMails 55 = .ok (.istore_n 2, 1) := by decide +kernel
theorem dX4_ownsItsMails_56 : decode cX4_ownsItsMails 56 = .ok (.iload_n 2, 1) := by decide +kernel
theorem dX4_ownsItsMails_57 : decode cX4_ownsItsMails 57 = .ok (.ifCond .eq 21, 3) := by decide +kernel
theorem dX4_ownsItsMails_60 : decode cX4_ownsItsMails 60 = .ok (.aload_n 0, 1) := by decide +kernel
theorem dX4_ownsItsMails_61 : decode cX4_ownsItsMails 61 = .ok (.getfield 28, 3) := by decide +kernel
theorem dX4_ownsItsMails_64 : decode cX4_ownsItsMails 64 = .ok (.iload_n 1, 1) := by decide +kernel
theorem dX4_ownsItsMails_65 : decode cX4_ownsItsMails 65 = .ok (.invokevirtual 81, 3) := by decide +kernel
theorem dX4_ownsItsMails_68 : decode cX4_ownsItsMails 68 = .ok (.checkcast 85, 3) := by decide +kernel
theorem dX4_ownsItsMails_71 : decode cX4_ownsItsMails 71 = .ok (.getfield 92, 3) := by decide +kernel
theorem dX4_ownsItsMails_74 : decode cX4_ownsItsMails 74 = .ok (.aload_n 0, 1) := by decide +kernel
theorem dX4_ownsItsMails_75 : decode cX4_ownsItsMails 75 = .ok (.if_acmp .eq 5, 3) := by decide +kernel
theorem dX4_ownsItsMails_78 : decode cX4_ownsItsMails 78 = .ok (.iconst 0, 1) := by decide +kernel
theorem dX4_ownsItsMails_79 : decode cX4_ownsItsMails 79 = .ok (.ireturn, 1) := by decide +kernel
theorem dX4_ownsItsMails_80 : decode cX4_ownsItsMails 80 = .ok (.iinc 1 1, 3) := by decide +kernel
theorem dX4_ownsItsMails_83 : decode cX4_ownsItsMails 83 = .ok (.goto (-81), 3) := by decide +kernel
theorem dX4_ownsItsMails_86 : decode cX4_ownsItsMails 86 = .ok (.iconst 1, 1) := by decide +kernel
theorem dX4_ownsItsMails_87 : decode cX4_ownsItsMails 87 = .ok (.ireturn, 1) := by decide +kernel
theorem dX5_init_0 : decode cX5_init 0 = .ok (.aload_n 0, 1) := by decide +kernel
theorem dX5_init_1 : decode cX5_init 1 = .ok (.invokespecial 1, 3) := by decide +kernel
theorem dX5_init_4 : decode cX5_init 4 = .ok (.aload_n 0, 1) := by decide +kernel
theorem dX5_init_5 : decode cX5_init 5 = .ok (.new 7, 3) := by decide +kernel
theorem dX5_init_8 : decode cX5_init 8 = .ok (.dup, 1) := by decide +kernel
theorem dX5_init_9 : decode cX5_init 9 = .ok (.invokespecial 9, 3) := by decide +kernel
theorem dX5_init_12 : decode cX5_init 12 = .ok (.putfield 10, 3) := by decide +kernel
theorem dX5_init_15 : decode cX5_init 15 = .ok (.return_, 1) := by decide +kernel
theorem dX5_length_0 : decode cX5_length 0 = .ok (.aload_n 0, 1) := by decide +kernel
theorem dX5_length_1 : decode cX5_length 1 = .ok (.getfield 10, 3) := by decide +kernel
theorem dX5_length_4 : decode cX5_length 4 = .ok (.invokevirtual 16, 3) := by decide +kernel
theorem dX5_length_7 : decode cX5_length 7 = .ok (.ireturn, 1) := by decide +kernel
theorem dX5_head_0 : decode cX5_head 0 = .ok (.aload_n 0, 1) := by decide +kernel
theorem dX5_head_1 : decode cX5_head 1 = .ok (.getfield 10, 3) := by decide +kernel
theorem dX5_head_4 : decode cX5_head 4 = .ok (.invokevirtual 20, 3) := by decide +kernel
theorem dX5_head_7 : decode cX5_head 7 = .ok (.ifCond .eq 7, 3) := by decide +kernel
theorem dX5_head_10 : decode cX5_head 10 = .ok (.aconst_null, 1) := by decide +kernel
theorem dX5_head_11 : decode cX5_head 11 = .ok (.goto 14, 3) := by decide +kernel
theorem dX5_head_14 : decode cX5_head 14 = .ok (.aload_n 0, 1) := by decide +kernel
theorem dX5_head_15 : decode cX5_head 15 = .ok (.getfield 10, 3) := by decide +kernel
theorem dX5_head_18 : decode cX5_head 18 = .ok (.iconst 0, 1) := by decide +kernel
theorem dX5_head_19 : decode cX5_head 19 = .ok (.invokevirtual 24, 3) := by decide +kernel
theorem dX5_head_22 : decode cX5_head 22 = .ok (.checkcast 28, 3) := by decide +kernel
theorem dX5_head_25 : decode cX5_head 25 = .ok (.areturn, 1) := by decide +kernel
theorem dX5_add_0 : decode cX5_add 0 = .ok (.aload_n 0, 1) := by decide +kernel
theorem dX5_add_1 : decode cX5_add 1 = .ok (.aload_n 0, 1) := by decide +kernel
theorem dX5_add_2 : decode cX5_add 2 = .ok (.getfield 10, 3) := by decide +kernel
theorem dX5_add_5 : decode cX5_add 5 = .ok (.invokevirtual 16, 3) := by decide +kernel
theorem dX5_add_8 : decode cX5_add 8 = .ok (.aload_n 1, 1) := by decide +kernel
theorem dX5_add_9 : decode cX5_add 9 = .ok (.invokevirtual 30, 3) := by decide +kernel
theorem dX5_add_12 : decode cX5_add 12 = .ok (.return_, 1) := by decide +kernel
theorem dX5_remove_0 : decode cX5_remove 0 = .ok (.iconst 0, 1) := by decide +kernel
theorem dX5_remove_1 : decode cX5_remove 1 = .ok (.istore_n 2, 1) := by decide +kernel
theorem dX5_remove_2 : decode cX5_remove 2 = .ok (.iload_n 2, 1) := by decide +kernel
theorem dX5_remove_3 : decode cX5_remove 3 = .ok (.aload_n 0, 1) := by decide +kernel
theorem dX5_remove_4 : decode cX5_remove 4 = .ok (.getfield 10, 3) := by decide +kernel
theorem dX5_remove_7 : decode cX5_remove 7 = .ok (.invokevirtual 16, 3) := by decide +kernel
theorem dX5_remove_10 : decode cX5_remove 10 = .ok (.if_icmp .ge 31, 3) := by decide +kernel
theorem dX5_remove_13 : decode cX5_remove 13 = .ok (.aload_n 0, 1) := by decide +kernel
theorem dX5_remove_14 : decode cX5_remove 14 = .ok (.getfield 10, 3) := by decide +kernel
theorem dX5_remove_17 : decode cX5_remove 17 = .ok (.iload_n 2, 1) := by decide +kernel
theorem dX5_remove_18 : decode cX5_remove 18 = .ok (.invokevirtual 24, 3) := by decide +kernel
theorem dX5_remove_21 : decode cX5_remove 21 = .ok (.aload_n 1, 1) := by decide +kernel
theorem dX5_remove_22 : decode cX5_remove 22 = .ok (.if_acmp .ne 13, 3) := by decide +kernel
theorem dX5_remove_25 : decode cX5_remove 25 = .ok (.aload_n 0, 1) := by decide +kernel
theorem dX5_remove_26 : decode cX5_remove 26 = .ok (.getfield 10, 3) := by decide +kernel
theorem dX5_remove_29 : decode cX5_remove 29 = .ok (.iload_n 2, 1) := by decide +kernel
theorem dX5_remove_30 : decode cX5_remove 30 = .ok (.invokevirtual 34, 3) := by decide +kernel
theorem dX5_remove_33 : decode cX5_remove 33 = .ok (.pop, 1) := by decide +kernel
theorem dX5_remove_34 : decode cX5_remove 34 = .ok (.return_, 1) := by decide +kernel
theorem dX5_remove_35 : decode cX5_remove 35 = .ok (.iinc 2 1, 3) := by decide +kernel
theorem dX5_remove_38 : decode cX5_remove 38 = .ok (.goto (-36), 3) := by decide +kernel
theorem dX5_remove_41 : decode cX5_remove 41 = .ok (.return_, 1) := by decide +kernel
theorem dX5_orderAnew_0 : decode cX5_orderAnew 0 = .ok (.iconst 1, 1) := by decide +kernel
theorem dX5_orderAnew_1 : decode cX5_orderAnew 1 = .ok (.istore_n 1, 1) := by decide +kernel
theorem dX5_orderAnew_2 : decode cX5_orderAnew 2 = .ok (.iload_n 1, 1) := by decide +kernel
theorem dX5_orderAnew_3 : decode cX5_orderAnew 3 = .ok (.aload_n 0, 1) := by decide +kernel
theorem dX5_orderAnew_4 : decode cX5_orderAnew 4 = .ok (.getfield 10, 3) := by decide +kernel
theorem dX5_orderAnew_7 : decode cX5_orderAnew 7 = .ok (.invokevirtual 16, 3) := by decide +kernel
theorem dX5_orderAnew_10 : decode cX5_orderAnew 10 = .ok (.if_icmp .ge 25, 3) := by decide +kernel
theorem dX5_orderAnew_13 : decode cX5_orderAnew 13 = .ok (.aload_n 0, 1) := by decide +kernel
theorem dX5_orderAnew_14 : decode cX5_orderAnew 14 = .ok (.iload_n 1, 1) := by decide +kernel
theorem dX5_orderAnew_15 : decode cX5_orderAnew 15 = .ok (.aload_n 0, 1) := by decide +kernel
theorem dX5_orderAnew_16 : decode cX5_orderAnew 16 = .ok (.getfield 10, 3) := by decide +kernel
theorem dX5_orderAnew_19 : decode cX5_orderAnew 19 = .ok (.iload_n 1, 1) := by decide +kernel
theorem dX5_orderAnew_20 : decode cX5_orderAnew 20 = .ok (.invokevirtual 34, 3) := by decide +kernel
theorem dX5_orderAnew_23 : decode cX5_orderAnew 23 = .ok (.checkcast 28, 3) := by decide +kernel
theorem dX5_orderAnew_26 : decode cX5_orderAnew 26 = .ok (.invokevirtual 30, 3) := by decide +kernel
theorem dX5_orderAnew_29 : decode cX5_orderAnew 29 = .ok (.iinc 1 1, 3) := by decide +kernel
theorem dX5_orderAnew_32 : decode cX5_orderAnew 32 = .ok (.goto (-30), 3) := by decide +kernel
theorem dX5_orderAnew_35 : decode cX5_orderAnew 35 = .ok (.return_, 1) := by decide +kernel
theorem dX5_insertBelow_0 : decode cX5_insertBelow 0 = .ok (.iload_n 1, 1) := by decide +kernel
theorem dX5_insertBelow_1 : decode cX5_insertBelow 1 = .ok (.istore_n 3, 1) := by decide +kernel
theorem dX5_insertBelow_2 : decode cX5_insertBelow 2 = .ok (.iload_n 3, 1) := by decide +kernel
theorem dX5_insertBelow_3 : decode cX5_insertBelow 3 = .ok (.ifCond .le 29, 3) := by decide +kernel
theorem dX5_insertBelow_6 : decode cX5_insertBelow 6 = .ok (.aload_n 2, 1) := by decide +kernel
theorem dX5_insertBelow_7 : decode cX5_insertBelow 7 = .ok (.aload_n 0, 1) := by decide +kernel
theorem dX5_insertBelow_8 : decode cX5_insertBelow 8 = .ok (.getfield 10, 3) := by decide +kernel
theorem dX5_insertBelow_11 : decode cX5_insertBelow 11 = .ok (.iload_n 3, 1) := by decide +kernel
theorem dX5_insertBelow_12 : decode cX5_insertBelow 12 = .ok (.iconst 1, 1) := by decide +kernel
theorem dX5_insertBelow_13 : decode cX5_insertBelow 13 = .ok (.isub, 1) := by decide +kernel
theorem dX5_insertBelow_14 : decode cX5_insertBelow 14 = .ok (.invokevirtual 24, 3) := by decide +kernel
theorem dX5_insertBelow_17 : decode cX5_insertBelow 17 = .ok (.checkcast 28, 3) := by decide +kernel
theorem dX5_insertBelow_20 : decode cX5_insertBelow 20 = .ok (.invokevirtual 37, 3) := by decide +kernel
theorem dX5_insertBelow_23 : decode cX5_insertBelow 23 = .ok (.ifCond .eq 9, 3) := by decide +kernel
theorem dX5_insertBelow_26 : decode cX5_insertBelow 26 = .ok (.iinc 3 (-1), 3) := by decide +kernel
theorem dX5_insertBelow_29 : decode cX5_insertBelow 29 = .ok (.goto (-27), 3) := by decide +kernel
theorem dX5_insertBelow_32 : decode cX5_insertBelow 32 = .ok (.aload_n 0, 1) := by decide +kernel
theorem dX5_insertBelow_33 : decode cX5_insertBelow 33 = .ok (.getfield 10, 3) := by decide +kernel
theorem dX5_insertBelow_36 : decode cX5_insertBelow 36 = .ok (.iload_n 3, 1) := by decide +kernel
theorem dX5_insertBelow_37 : decode cX5_insertBelow 37 = .ok (.aload_n 2, 1) := by decide +kernel
theorem dX5_insertBelow_38 : decode cX5_insertBelow 38 = .ok (.invokevirtual 41, 3) := by decide +kernel
theorem dX5_insertBelow_41 : decode cX5_insertBelow 41 = .ok (.return_, 1) := by decide +kernel
theorem dX6_init_0 : decode cX6_init 0 = .ok (.aload_n 0, 1) := by decide +kernel
theorem dX6_init_1 : decode cX6_init 1 = .ok (.invokespecial 1, 3) := by decide +kernel
theorem dX6_init_4 : decode cX6_init 4 = .ok (.aload_n 0, 1) := by decide +kernel
theorem dX6_init_5 : decode cX6_init 5 = .ok (.iconst 3, 1) := by decide +kernel
theorem dX6_init_6 : decode cX6_init 6 = .ok (.newarray .int, 2) := by decide +kernel
theorem dX6_init_8 : decode cX6_init 8 = .ok (.dup, 1) := by decide +kernel
theorem dX6_init_9 : decode cX6_init 9 = .ok (.iconst 0, 1) := by decide +kernel
theorem dX6_init_10 : decode cX6_init 10 = .ok (.sipush 240, 3) := by decide +kernel
theorem dX6_init_13 : decode cX6_init 13 = .ok (.iastore, 1) := by decide +kernel
theorem dX6_init_14 : decode cX6_init 14 = .ok (.dup, 1) := by decide +kernel
theorem dX6_init_15 : decode cX6_init 15 = .ok (.iconst 1, 1) := by decide +kernel
theorem dX6_init_16 : decode cX6_init 16 = .ok (.bipush 120, 2) := by decide +kernel
theorem dX6_init_18 : decode cX6_init 18 = .ok (.iastore, 1) := by decide +kernel
theorem dX6_init_19 : decode cX6_init 19 = .ok (.dup, 1) := by decide +kernel
theorem dX6_init_20 : decode cX6_init 20 = .ok (.iconst 2, 1) := by decide +kernel
theorem dX6_init_21 : decode cX6_init 21 = .ok (.bipush 30, 2) := by decide +kernel
theorem dX6_init_23 : decode cX6_init 23 = .ok (.iastore, 1) := by decide +kernel
theorem dX6_init_24 : decode cX6_init 24 = .ok (.putfield 7, 3) := by decide +kernel
theorem dX6_init_27 : decode cX6_init 27 = .ok (.aload_n 0, 1) := by decide +kernel
theorem dX6_init_28 : decode cX6_init 28 = .ok (.bipush 8, 2) := by decide +kernel
theorem dX6_init_30 : decode cX6_init 30 = .ok (.anewarray 13, 3) := by decide +kernel
theorem dX6_init_33 : decode cX6_init 33 = .ok (.putfield 15, 3) := by decide +kernel
theorem dX6_init_36 : decode cX6_init 36 = .ok (.iconst 0, 1) := by decide +kernel
theorem dX6_init_37 : decode cX6_init 37 = .ok (.istore_n 1, 1) := by decide +kernel
theorem dX6_init_38 : decode cX6_init 38 = .ok (.iload_n 1, 1) := by decide +kernel
theorem dX6_init_39 : decode cX6_init 39 = .ok (.bipush 8, 2) := by decide +kernel
theorem dX6_init_41 : decode cX6_init 41 = .ok (.if_icmp .ge 26, 3) := by decide +kernel
theorem dX6_init_44 : decode cX6_init 44 = .ok (.aload_n 0, 1) := by decide +kernel
theorem dX6_init_45 : decode cX6_init 45 = .ok (.getfield 15, 3) := by decide +kernel
theorem dX6_init_48 : decode cX6_init 48 = .ok (.iload_n 1, 1) := by decide +kernel
theorem dX6_init_49 : decode cX6_init 49 = .ok (.new 13, 3) := by decide +kernel
theorem dX6_init_52 : decode cX6_init 52 = .ok (.dup, 1) := by decide +kernel
theorem dX6_init_53 : decode cX6_init 53 = .ok (.aload_n 0, 1) := by decide +kernel
theorem dX6_init_54 : decode cX6_init 54 = .ok (.getfield 7, 3) := by decide +kernel
theorem dX6_init_57 : decode cX6_init 57 = .ok (.invokespecial 19, 3) := by decide +kernel
theorem dX6_init_60 : decode cX6_init 60 = .ok (.aastore, 1) := by decide +kernel
theorem dX6_init_61 : decode cX6_init 61 = .ok (.iinc 1 1, 3) := by decide +kernel
theorem dX6_init_64 : decode cX6_init 64 = .ok (.goto (-26), 3) := by decide +kernel
theorem dX6_init_67 : decode cX6_init 67 = .ok (.aload_n 0, 1) := by decide +kernel
theorem dX6_init_68 : decode cX6_init 68 = .ok (.bipush 6, 2) := by decide +kernel
theorem dX6_init_70 : decode cX6_init 70 = .ok (.anewarray 22, 3) := by decide +kernel
theorem dX6_init_73 : decode cX6_init 73 = .ok (.putfield 24, 3) := by decide +kernel
theorem dX6_init_76 : decode cX6_init 76 = .ok (.iconst 0, 1) := by decide +kernel
theorem dX6_init_77 : decode cX6_init 77 = .ok (.istore_n 1, 1) := by decide +kernel
theorem dX6_init_78 : decode cX6_init 78 = .ok (.iload_n 1, 1) := by decide +kernel
theorem dX6_init_79 : decode cX6_init 79 = .ok (.bipush 6, 2) := by decide +kernel
theorem dX6_init_81 : decode cX6_init 81 = .ok (.if_icmp .ge 22, 3) := by decide +kernel
theorem dX6_init_84 : decode cX6_init 84 = .ok (.aload_n 0, 1) := by decide +kernel
theorem dX6_init_85 : decode cX6_init 85 = .ok (.getfield 24, 3) := by decide +kernel
theorem dX6_init_88 : decode cX6_init 88 = .ok (.iload_n 1, 1) := by decide +kernel
theorem dX6_init_89 : decode cX6_init 89 = .ok (.new 22, 3) := by decide +kernel
theorem dX6_init_92 : decode cX6_init 92 = .ok (.dup, 1) := by decide +kernel
theorem dX6_init_93 : decode cX6_init 93 = .ok (.invokespecial 28, 3) := by decide +kernel
theorem dX6_init_96 : decode cX6_init 96 = .ok (.aastore, 1) := by decide +kernel
theorem dX6_init_97 : decode cX6_init 97 = .ok (.iinc 1 1, 3) := by decide +kernel
theorem dX6_init_100 : decode cX6_init 100 = .ok (.goto (-22), 3) := by decide +kernel
theorem dX6_init_103 : decode cX6_init 103 = .ok (.aload_n 0, 1) := by decide +kernel
theorem dX6_init_104 : decode cX6_init 104 = .ok (.new 29, 3) := by decide +kernel
theorem dX6_init_107 : decode cX6_init 107 = .ok (.dup, 1) := by decide +kernel
theorem dX6_init_108 : decode cX6_init 108 = .ok (.invokespecial 31, 3) := by decide +kernel
theorem dX6_init_111 : decode cX6_init 111 = .ok (.putfield 32, 3) := by decide +kernel
theorem dX6_init_114 : decode cX6_init 114 = .ok (.aload_n 0, 1) := by decide +kernel
theorem dX6_init_115 : decode cX6_init 115 = .ok (.new 29, 3) := by decide +kernel
theorem dX6_init_118 : decode cX6_init 118 = .ok (.dup, 1) := by decide +kernel
theorem dX6_init_119 : decode cX6_init 119 = .ok (.invokespecial 31, 3) := by decide +kernel
theorem dX6_init_122 : decode cX6_init 122 = .ok (.putfield 36, 3) := by decide +kernel
theorem dX6_init_125 : decode cX6_init 125 = .ok (.aload_n 0, 1) := by decide +kernel
theorem dX6_init_126 : decode cX6_init 126 = .ok (.new 29, 3) := by decide +kernel
theorem dX6_init_129 : decode cX6_init 129 = .ok (.dup, 1) := by decide +kernel
theorem dX6_init_130 : decode cX6_init 130 = .ok (.invokespecial 31, 3) := by decide +kernel
theorem dX6_init_133 : decode cX6_init 133 = .ok (.putfield 39, 3) := by decide +kernel
theorem dX6_init_136 : decode cX6_init 136 = .ok (.aload_n 0, 1) := by decide +kernel
theorem dX6_init_137 : decode cX6_init 137 = .ok (.new 29, 3) := by decide +kernel
theorem dX6_init_140 : decode cX6_init 140 = .ok (.dup, 1) := by decide +kernel
theorem dX6_init_141 : decode cX6_init 141 = .ok (.invokespecial 31, 3) := by decide +kernel
theorem dX6_init_144 : decode cX6_init 144 = .ok (.putfield 42, 3) := by decide +kernel
theorem dX6_init_147 : decode cX6_init 147 = .ok (.aload_n 0, 1) := by decide +kernel
theorem dX6_init_148 : decode cX6_init 148 = .ok (.bipush 10, 2) := by decide +kernel
theorem dX6_init_150 : decode cX6_init 150 = .ok (.newarray .int, 2) := by decide +kernel
theorem dX6_init_152 : decode cX6_init 152 = .ok (.putfield 45, 3) := by decide +kernel
theorem dX6_init_155 : decode cX6_init 155 = .ok (.aload_n 0, 1) := by decide +kernel
theorem dX6_init_156 : decode cX6_init 156 = .ok (.bipush 8, 2) := by decide +kernel
theorem dX6_init_158 : decode cX6_init 158 = .ok (.newarray .int, 2) := by decide +kernel
theorem dX6_init_160 : decode cX6_init 160 = .ok (.putfield 48, 3) := by decide +kernel
theorem dX6_init_163 : decode cX6_init 163 = .ok (.return_, 1) := by decide +kernel
theorem dX6_pass_0 : decode cX6_pass 0 = .ok (.iload_n 1, 1) := by decide +kernel
theorem dX6_pass_1 : decode cX6_pass 1 = .ok (.iconst 1, 1) := by decide +kernel
theorem dX6_pass_2 : decode cX6_pass 2 = .ok (.sipush 600, 3) := by decide +kernel
theorem dX6_pass_5 : decode cX6_pass 5 = .ok (.invokestatic 51, 3) := by decide +kernel
theorem dX6_pass_8 : decode cX6_pass 8 = .ok (.ifCond .ne 13, 3) := by decide +kernel
theorem dX6_pass_11 : decode cX6_pass 11 = .ok (.new 55, 3) := by decide +kernel
theorem dX6_pass_14 : decode cX6_pass 14 = .ok (.dup, 1) := by decide +kernel
theorem dX6_pass_15 : decode cX6_pass 15 = .ok (.ldc 57, 2) := by decide +kernel
theorem dX6_pass_17 : decode cX6_pass 17 = .ok (.invokespecial 59, 3) := by decide +kernel
theorem dX6_pass_20 : decode cX6_pass 20 = .ok (.athrow, 1) := by decide +kernel
theorem dX6_pass_21 : decode cX6_pass 21 = .ok (.iconst 0, 1) := by decide +kernel
theorem dX6_pass_22 : decode cX6_pass 22 = .ok (.istore_n 2, 1) := by decide +kernel
theorem dX6_pass_23 : decode cX6_pass 23 = .ok (.iconst 0, 1) := by decide +kernel
theorem dX6_pass_24 : decode cX6_pass 24 = .ok (.istore_n 3, 1) := by decide +kernel
theorem dX6_pass_25 : decode cX6_pass 25 = .ok (.iload_n 3, 1) := by decide +kernel
theorem dX6_pass_26 : decode cX6_pass 26 = .ok (.aload_n 0, 1) := by decide +kernel
theorem dX6_pass_27 : decode cX6_pass 27 = .ok (.getfield 36, 3) := by decide +kernel
theorem dX6_pass_30 : decode cX6_pass 30 = .ok (.invokevirtual 62, 3) := by decide +kernel
theorem dX6_pass_33 : decode cX6_pass 33 = .ok (.if_icmp .ge 55, 3) := by decide +kernel
theorem dX6_pass_36 : decode cX6_pass 36 = .ok (.aload_n 0, 1) := by decide +kernel
theorem dX6_pass_37 : decode cX6_pass 37 = .ok (.getfield 36, 3) := by decide +kernel
theorem dX6_pass_40 : decode cX6_pass 40 = .ok (.iload_n 3, 1) := by decide +kernel
theorem dX6_pass_41 : decode cX6_pass 41 = .ok (.invokevirtual 66, 3) := by decide +kernel
theorem dX6_pass_44 : decode cX6_pass 44 = .ok (.checkcast 70, 3) := by decide +kernel
theorem dX6_pass_47 : decode cX6_pass 47 = .ok (.astore 4, 2) := by decide +kernel
theorem dX6_pass_49 : decode cX6_pass 49 = .ok (.aload 4, 2) := by decide +kernel
theorem dX6_pass_51 : decode cX6_pass 51 = .ok (.getfield 72, 3) := by decide +kernel
theorem dX6_pass_54 : decode cX6_pass 54 = .ok (.bipush 111, 2) := by decide +kernel
theorem dX6_pass_56 : decode cX6_pass 56 = .ok (.if_icmp .ne 26, 3) := by decide +kernel
theorem dX6_pass_59 : decode cX6_pass 59 = .ok (.aload_n 0, 1) := by decide +kernel
theorem dX6_pass_60 : decode cX6_pass 60 = .ok (.dup, 1) := by decide +kernel
theorem dX6_pass_61 : decode cX6_pass 61 = .ok (.getfield 76, 3) := by decide +kernel
theorem dX6_pass_64 : decode cX6_pass 64 = .ok (.iload_n 1, 1) := by decide +kernel
theorem dX6_pass_65 : decode cX6_pass 65 = .ok (.i2l, 1) := by decide +kernel
theorem dX6_pass_66 : decode cX6_pass 66 = .ok (.ladd, 1) := by decide +kernel
theorem dX6_pass_67 : decode cX6_pass 67 = .ok (.putfield 76, 3) := by decide +kernel
theorem dX6_pass_70 : decode cX6_pass 70 = .ok (.aload 4, 2) := by decide +kernel
theorem dX6_pass_72 : decode cX6_pass 72 = .ok (.iload_n 1, 1) := by decide +kernel
theorem dX6_pass_73 : decode cX6_pass 73 = .ok (.invokevirtual 80, 3) := by decide +kernel
theorem dX6_pass_76 : decode cX6_pass 76 = .ok (.ifCond .eq 6, 3) := by decide +kernel
theorem dX6_pass_79 : decode cX6_pass 79 = .ok (.iinc 2 1, 3) := by decide +kernel
theorem dX6_pass_82 : decode cX6_pass 82 = .ok (.iinc 3 1, 3) := by decide +kernel
theorem dX6_pass_85 : decode cX6_pass 85 = .ok (.goto (-60), 3) := by decide +kernel
theorem dX6_pass_88 : decode cX6_pass 88 = .ok (.aload_n 0, 1) := by decide +kernel
theorem dX6_pass_89 : decode cX6_pass 89 = .ok (.dup, 1) := by decide +kernel
theorem dX6_pass_90 : decode cX6_pass 90 = .ok (.getfield 84, 3) := by decide +kernel
theorem dX6_pass_93 : decode cX6_pass 93 = .ok (.iload_n 1, 1) := by decide +kernel
theorem dX6_pass_94 : decode cX6_pass 94 = .ok (.iadd, 1) := by decide +kernel
theorem dX6_pass_95 : decode cX6_pass 95 = .ok (.putfield 84, 3) := by decide +kernel
theorem dX6_pass_98 : decode cX6_pass 98 = .ok (.aload_n 0, 1) := by decide +kernel
theorem dX6_pass_99 : decode cX6_pass 99 = .ok (.dup, 1) := by decide +kernel
theorem dX6_pass_100 : decode cX6_pass 100 = .ok (.getfield 88, 3) := by decide +kernel
theorem dX6_pass_103 : decode cX6_pass 103 = .ok (.iload_n 2, 1) := by decide +kernel
theorem dX6_pass_104 : decode cX6_pass 104 = .ok (.iadd, 1) := by decide +kernel
theorem dX6_pass_105 : decode cX6_pass 105 = .ok (.putfield 88, 3) := by decide +kernel
theorem dX6_pass_108 : decode cX6_pass 108 = .ok (.iload_n 2, 1) := by decide +kernel
theorem dX6_pass_109 : decode cX6_pass 109 = .ok (.ireturn, 1) := by decide +kernel
theorem dX6_time_0 : decode cX6_time 0 = .ok (.aload_n 0, 1) := by decide +kernel
theorem dX6_time_1 : decode cX6_time 1 = .ok (.getfield 84, 3) := by decide +kernel
theorem dX6_time_4 : decode cX6_time 4 = .ok (.ireturn, 1) := by decide +kernel
theorem dX6_setClass_0 : decode cX6_setClass 0 = .ok (.iload_n 1, 1) := by decide +kernel
theorem dX6_setClass_1 : decode cX6_setClass 1 = .ok (.iconst 0, 1) := by decide +kernel
theorem dX6_setClass_2 : decode cX6_setClass 2 = .ok (.bipush 7, 2) := by decide +kernel
theorem dX6_setClass_4 : decode cX6_setClass 4 = .ok (.invokestatic 51, 3) := by decide +kernel
theorem dX6_setClass_7 : decode cX6_setClass 7 = .ok (.ifCond .eq 12, 3) := by decide +kernel
theorem dX6_setClass_10 : decode cX6_setClass 10 = .ok (.iload_n 2, 1) := by decide +kernel
theorem dX6_setClass_11 : decode cX6_setClass 11 = .ok (.iconst 0, 1) := by decide +kernel
theorem dX6_setClass_12 : decode cX6_setClass 12 = .ok (.iconst 2, 1) := by decide +kernel
theorem dX6_setClass_13 : decode cX6_setClass 13 = .ok (.invokestatic 51, 3) := by decide +kernel
theorem dX6_setClass_16 : decode cX6_setClass 16 = .ok (.ifCond .ne 13, 3) := by decide +kernel
theorem dX6_setClass_19 : decode cX6_setClass 19 = .ok (.new 55, 3) := by decide +kernel
theorem dX6_setClass_22 : decode cX6_setClass 22 = .ok (.dup, 1) := by decide +kernel
theorem dX6_setClass_23 : decode cX6_setClass 23 = .ok (.ldc 91, 2) := by decide +kernel
theorem dX6_setClass_25 : decode cX6_setClass 25 = .ok (.invokespecial 59, 3) := by decide +kernel
theorem dX6_setClass_28 : decode cX6_setClass 28 = .ok (.athrow, 1) := by decide +kernel
theorem dX6_setClass_29 : decode cX6_setClass 29 = .ok (.aload_n 0, 1) := by decide +kernel
theorem dX6_setClass_30 : decode cX6_setClass 30 = .ok (.getfield 15, 3) := by decide +kernel
theorem dX6_setClass_33 : decode cX6_setClass 33 = .ok (.iload_n 1, 1) := by decide +kernel
theorem dX6_setClass_34 : decode cX6_setClass 34 = .ok (.aaload, 1) := by decide +kernel
theorem dX6_setClass_35 : decode cX6_setClass 35 = .ok (.getfield 93, 3) := by decide +kernel
theorem dX6_setClass_38 : decode cX6_setClass 38 = .ok (.istore_n 3, 1) := by decide +kernel
theorem dX6_setClass_39 : decode cX6_setClass 39 = .ok (.aload_n 0, 1) := by decide +kernel
theorem dX6_setClass_40 : decode cX6_setClass 40 = .ok (.getfield 15, 3) := by decide +kernel
theorem dX6_setClass_43 : decode cX6_setClass 43 = .ok (.iload_n 1, 1) := by decide +kernel
theorem dX6_setClass_44 : decode cX6_setClass 44 = .ok (.aaload, 1) := by decide +kernel
theorem dX6_setClass_45 : decode cX6_setClass 45 = .ok (.iload_n 2, 1) := by decide +kernel
theorem dX6_setClass_46 : decode cX6_setClass 46 = .ok (.putfield 93, 3) := by decide +kernel
theorem dX6_setClass_49 : decode cX6_setClass 49 = .ok (.aload_n 0, 1) := by decide +kernel
theorem dX6_setClass_50 : decode cX6_setClass 50 = .ok (.invokevirtual 96, 3) := by decide +kernel
theorem dX6_setClass_53 : decode cX6_setClass 53 = .ok (.iload_n 3, 1) := by decide +kernel
theorem dX6_setClass_54 : decode cX6_setClass 54 = .ok (.ireturn, 1) := by decide +kernel
theorem dX6_setPromise_0 : decode cX6_setPromise 0 = .ok (.iload_n 1, 1) := by decide +kernel
theorem dX6_setPromise_1 : decode cX6_setPromise 1 = .ok (.iconst 0, 1) := by decide +kernel
theorem dX6_setPromise_2 : decode cX6_setPromise 2 = .ok (.iconst 2, 1) := by decide +kernel
theorem dX6_setPromise_3 : decode cX6_setPromise 3 = .ok (.invokestatic 51, 3) := by decide +kernel
theorem dX6_setPromise_6 : decode cX6_setPromise 6 = .ok (.ifCond .eq 14, 3) := by decide +kernel
theorem dX6_setPromise_9 : decode cX6_setPromise 9 = .ok (.iload_n 2, 1) := by decide +kernel
theorem dX6_setPromise_10 : decode cX6_setPromise 10 = .ok (.iconst 1, 1) := by decide +kernel
theorem dX6_setPromise_11 : decode cX6_setPromise 11 = .ok (.sipush 9999, 3) := by decide +kernel
theorem dX6_setPromise_14 : decode cX6_setPromise 14 = .ok (.invokestatic 51, 3) := by decide +kernel
theorem dX6_setPromise_17 : decode cX6_setPromise 17 = .ok (.ifCond .ne 13, 3) := by decide +kernel
theorem dX6_setPromise_20 : decode cX6_setPromise 20 = .ok (.new 55, 3) := by decide +kernel
theorem dX6_setPromise_23 : decode cX6_setPromise 23 = .ok (.dup, 1) := by decide +kernel
theorem dX6_setPromise_24 : decode cX6_setPromise 24 = .ok (.ldc 99, 2) := by decide +kernel
theorem dX6_setPromise_26 : decode cX6_setPromise 26 = .ok (.invokespecial 59, 3) := by decide +kernel
theorem dX6_setPromise_29 : decode cX6_setPromise 29 = .ok (.athrow, 1) := by decide +kernel
theorem dX6_setPromise_30 : decode cX6_setPromise 30 = .ok (.aload_n 0, 1) := by decide +kernel
theorem dX6_setPromise_31 : decode cX6_setPromise 31 = .ok (.getfield 7, 3) := by decide +kernel
theorem dX6_setPromise_34 : decode cX6_setPromise 34 = .ok (.iload_n 1, 1) := by decide +kernel
theorem dX6_setPromise_35 : decode cX6_setPromise 35 = .ok (.iaload, 1) := by decide +kernel
theorem dX6_setPromise_36 : decode cX6_setPromise 36 = .ok (.istore_n 3, 1) := by decide +kernel
theorem dX6_setPromise_37 : decode cX6_setPromise 37 = .ok (.aload_n 0, 1) := by decide +kernel
theorem dX6_setPromise_38 : decode cX6_setPromise 38 = .ok (.getfield 7, 3) := by decide +kernel
theorem dX6_setPromise_41 : decode cX6_setPromise 41 = .ok (.iload_n 1, 1) := by decide +kernel
theorem dX6_setPromise_42 : decode cX6_setPromise 42 = .ok (.iload_n 2, 1) := by decide +kernel
theorem dX6_setPromise_43 : decode cX6_setPromise 43 = .ok (.iastore, 1) := by decide +kernel
theorem dX6_setPromise_44 : decode cX6_setPromise 44 = .ok (.aload_n 0, 1) := by decide +kernel
theorem dX6_setPromise_45 : decode cX6_setPromise 45 = .ok (.invokevirtual 96, 3) := by decide +kernel
theorem dX6_setPromise_48 : decode cX6_setPromise 48 = .ok (.iload_n 3, 1) := by decide +kernel
theorem dX6_setPromise_49 : decode cX6_setPromise 49 = .ok (.ireturn, 1) := by decide +kernel
theorem dX6_mail_0 : decode cX6_mail 0 = .ok (.iload_n 1, 1) := by decide +kernel
theorem dX6_mail_1 : decode cX6_mail 1 = .ok (.iconst 0, 1) := by decide +kernel
theorem dX6_mail_2 : decode cX6_mail 2 = .ok (.bipush 7, 2) := by decide +kernel
theorem dX6_mail_4 : decode cX6_mail 4 = .ok (.invokestatic 51, 3) := by decide +kernel
theorem dX6_mail_7 : decode cX6_mail 7 = .ok (.ifCond .eq 29, 3) := by decide +kernel
theorem dX6_mail_10 : decode cX6_mail 10 = .ok (.iload_n 2, 1) := by decide +kernel
theorem dX6_mail_11 : decode cX6_mail 11 = .ok (.iconst 0, 1) := by decide +kernel
theorem dX6_mail_12 : decode cX6_mail 12 = .ok (.bipush 19, 2) := by decide +kernel
theorem dX6_mail_14 : decode cX6_mail 14 = .ok (.invokestatic 51, 3) := by decide +kernel
theorem dX6_mail_17 : decode cX6_mail 17 = .ok (.ifCond .eq 19, 3) := by decide +kernel
theorem dX6_mail_20 : decode cX6_mail 20 = .ok (.iload 4, 2) := by decide +kernel
theorem dX6_mail_22 : decode cX6_mail 22 = .ok (.invokestatic 101, 3) := by decide +kernel
theorem dX6_mail_25 : decode cX6_mail 25 = .ok (.ifCond .eq 11, 3) := by decide +kernel
theorem dX6_mail_28 : decode cX6_mail 28 = .ok (.iload 5, 2) := by decide +kernel
theorem dX6_mail_30 : decode cX6_mail 30 = .ok (.invokestatic 104, 3) := by decide +kernel
theorem dX6_mail_33 : decode cX6_mail 33 = .ok (.ifCond .ne 13, 3) := by decide +kernel
theorem dX6_mail_36 : decode cX6_mail 36 = .ok (.new 55, 3) := by decide +kernel
theorem dX6_mail_39 : decode cX6_mail 39 = .ok (.dup, 1) := by decide +kernel
theorem dX6_mail_40 : decode cX6_mail 40 = .ok (.ldc 107, 2) := by decide +kernel
theorem dX6_mail_42 : decode cX6_mail 42 = .ok (.invokespecial 59, 3) := by decide +kernel
theorem dX6_mail_45 : decode cX6_mail 45 = .ok (.athrow, 1) := by decide +kernel
theorem dX6_mail_46 : decode cX6_mail 46 = .ok (.iload_n 3, 1) := by decide +kernel
theorem dX6_mail_47 : decode cX6_mail 47 = .ok (.iconst (-1), 1) := by decide +kernel
theorem dX6_mail_48 : decode cX6_mail 48 = .ok (.if_icmp .eq 30, 3) := by decide +kernel
theorem dX6_mail_51 : decode cX6_mail 51 = .ok (.iload_n 3, 1) := by decide +kernel
theorem dX6_mail_52 : decode cX6_mail 52 = .ok (.iconst 0, 1) := by decide +kernel
theorem dX6_mail_53 : decode cX6_mail 53 = .ok (.aload_n 0, 1) := by decide +kernel
theorem dX6_mail_54 : decode cX6_mail 54 = .ok (.getfield 32, 3) := by decide +kernel
theorem dX6_mail_57 : decode cX6_mail 57 = .ok (.invokevirtual 62, 3) := by decide +kernel
theorem dX6_mail_60 : decode cX6_mail 60 = .ok (.iconst 1, 1) := by decide +kernel
theorem dX6_mail_61 : decode cX6_mail 61 = .ok (.isub, 1) := by decide +kernel
theorem dX6_mail_62 : decode cX6_mail 62 = .ok (.invokestatic 51, 3) := by decide +kernel
theorem dX6_mail_65 : decode cX6_mail 65 = .ok (.ifCond .ne 13, 3) := by decide +kernel
theorem dX6_mail_68 : decode cX6_mail 68 = .ok (.new 109, 3) := by decide +kernel
theorem dX6_mail_71 : decode cX6_mail 71 = .ok (.dup, 1) := by decide +kernel
theorem dX6_mail_72 : decode cX6_mail 72 = .ok (.ldc 111, 2) := by decide +kernel
theorem dX6_mail_74 : decode cX6_mail 74 = .ok (.invokespecial 113, 3) := by decide +kernel
theorem dX6_mail_77 : decode cX6_mail 77 = .ok (.athrow, 1) := by decide +kernel
theorem dX6_mail_78 : decode cX6_mail 78 = .ok (.aload_n 0, 1) := by decide +kernel
theorem dX6_mail_79 : decode cX6_mail 79 = .ok (.getfield 15, 3) := by decide +kernel
theorem dX6_mail_82 : decode cX6_mail 82 = .ok (.iload_n 1, 1) := by decide +kernel
theorem dX6_mail_83 : decode cX6_mail 83 = .ok (.aaload, 1) := by decide +kernel
theorem dX6_mail_84 : decode cX6_mail 84 = .ok (.astore 6, 2) := by decide +kernel
theorem dX6_mail_86 : decode cX6_mail 86 = .ok (.aload_n 0, 1) := by decide +kernel
theorem dX6_mail_87 : decode cX6_mail 87 = .ok (.aload 6, 2) := by decide +kernel
theorem dX6_mail_89 : decode cX6_mail 89 = .ok (.iload_n 2, 1) := by decide +kernel
theorem dX6_mail_90 : decode cX6_mail 90 = .ok (.iload_n 3, 1) := by decide +kernel
theorem dX6_mail_91 : decode cX6_mail 91 = .ok (.invokevirtual 114, 3) := by decide +kernel
theorem dX6_mail_94 : decode cX6_mail 94 = .ok (.astore 7, 2) := by decide +kernel
theorem dX6_mail_96 : decode cX6_mail 96 = .ok (.aload_n 0, 1) := by decide +kernel
theorem dX6_mail_97 : decode cX6_mail 97 = .ok (.getfield 32, 3) := by decide +kernel
theorem dX6_mail_100 : decode cX6_mail 100 = .ok (.invokevirtual 62, 3) := by decide +kernel
theorem dX6_mail_103 : decode cX6_mail 103 = .ok (.bipush 80, 2) := by decide +kernel
theorem dX6_mail_105 : decode cX6_mail 105 = .ok (.if_icmp .ge 20, 3) := by decide +kernel
theorem dX6_mail_108 : decode cX6_mail 108 = .ok (.aload 7, 2) := by decide +kernel
theorem dX6_mail_110 : decode cX6_mail 110 = .ok (.ifnonnull 25, 3) := by decide +kernel
theorem dX6_mail_113 : decode cX6_mail 113 = .ok (.aload_n 0, 1) := by decide +kernel
theorem dX6_mail_114 : decode cX6_mail 114 = .ok (.getfield 36, 3) := by decide +kernel
theorem dX6_mail_117 : decode cX6_mail 117 = .ok (.invokevirtual 62, 3) := by decide +kernel
theorem dX6_mail_120 : decode cX6_mail 120 = .ok (.bipush 40, 2) := by decide +kernel
theorem dX6_mail_122 : decode cX6_mail 122 = .ok (.if_icmp .lt 13, 3) := by decide +kernel
theorem dX6_mail_125 : decode cX6_mail 125 = .ok (.new 118, 3) := by decide +kernel
theorem dX6_mail_128 : decode cX6_mail 128 = .ok (.dup, 1) := by decide +kernel
theorem dX6_mail_129 : decode cX6_mail 129 = .ok (.ldc 120, 2) := by decide +kernel
theorem dX6_mail_131 : decode cX6_mail 131 = .ok (.invokespecial 122, 3) := by decide +kernel
theorem dX6_mail_134 : decode cX6_mail 134 = .ok (.athrow, 1) := by decide +kernel
theorem dX6_mail_135 : decode cX6_mail 135 = .ok (.aload 7, 2) := by decide +kernel
theorem dX6_mail_137 : decode cX6_mail 137 = .ok (.ifnonnull 34, 3) := by decide +kernel
theorem dX6_mail_140 : decode cX6_mail 140 = .ok (.new 70, 3) := by decide +kernel
theorem dX6_mail_143 : decode cX6_mail 143 = .ok (.dup, 1) := by decide +kernel
theorem dX6_mail_144 : decode cX6_mail 144 = .ok (.aload_n 0, 1) := by decide +kernel
theorem dX6_mail_145 : decode cX6_mail 145 = .ok (.getfield 36, 3) := by decide +kernel
theorem dX6_mail_148 : decode cX6_mail 148 = .ok (.invokevirtual 62, 3) := by decide +kernel
theorem dX6_mail_151 : decode cX6_mail 151 = .ok (.aload 6, 2) := by decide +kernel
theorem dX6_mail_153 : decode cX6_mail 153 = .ok (.iload_n 2, 1) := by decide +kernel
theorem dX6_mail_154 : decode cX6_mail 154 = .ok (.iload 4, 2) := by decide +kernel
theorem dX6_mail_156 : decode cX6_mail 156 = .ok (.invokespecial 123, 3) := by decide +kernel
theorem dX6_mail_159 : decode cX6_mail 159 = .ok (.astore 7, 2) := by decide +kernel
theorem dX6_mail_161 : decode cX6_mail 161 = .ok (.aload_n 0, 1) := by decide +kernel
theorem dX6_mail_162 : decode cX6_mail 162 = .ok (.getfield 36, 3) := by decide +kernel
theorem dX6_mail_165 : decode cX6_mail 165 = .ok (.aload 7, 2) := by decide +kernel
theorem dX6_mail_167 : decode cX6_mail 167 = .ok (.invokevirtual 126, 3) := by decide +kernel
theorem dX6_mail_170 : decode cX6_mail 170 = .ok (.pop, 1) := by decide +kernel
theorem dX6_mail_171 : decode cX6_mail 171 = .ok (.aload_n 0, 1) := by decide +kernel
theorem dX6_mail_172 : decode cX6_mail 172 = .ok (.aload 7, 2) := by decide +kernel
theorem dX6_mail_174 : decode cX6_mail 174 = .ok (.invokevirtual 130, 3) := by decide +kernel
theorem dX6_mail_177 : decode cX6_mail 177 = .ok (.aload_n 0, 1) := by decide +kernel
theorem dX6_mail_178 : decode cX6_mail 178 = .ok (.aload 7, 2) := by decide +kernel
theorem dX6_mail_180 : decode cX6_mail 180 = .ok (.iload 5, 2) := by decide +kernel
theorem dX6_mail_182 : decode cX6_mail 182 = .ok (.invokevirtual 134, 3) := by decide +kernel
theorem dX6_mail_185 : decode cX6_mail 185 = .ok (.aload_n 0, 1) := by decide +kernel
theorem dX6_mail_186 : decode cX6_mail 186 = .ok (.aload 7, 2) := by decide +kernel
theorem dX6_mail_188 : decode cX6_mail 188 = .ok (.invokevirtual 138, 3) := by decide +kernel
theorem dX6_mail_191 : decode cX6_mail 191 = .ok (.aload 7, 2) := by decide +kernel
theorem dX6_mail_193 : decode cX6_mail 193 = .ok (.getfield 141, 3) := by decide +kernel
theorem dX6_mail_196 : decode cX6_mail 196 = .ok (.ireturn, 1) := by decide +kernel
theorem dX6_ticketOf_0 : decode cX6_ticketOf 0 = .ok (.iload_n 1, 1) := by decide +kernel
theorem dX6_ticketOf_1 : decode cX6_ticketOf 1 = .ok (.iconst 0, 1) := by decide +kernel
theorem dX6_ticketOf_2 : decode cX6_ticketOf 2 = .ok (.aload_n 0, 1) := by decide +kernel
theorem dX6_ticketOf_3 : decode cX6_ticketOf 3 = .ok (.getfield 32, 3) := by decide +kernel
theorem dX6_ticketOf_6 : decode cX6_ticketOf 6 = .ok (.invokevirtual 62, 3) := by decide +kernel
theorem dX6_ticketOf_9 : decode cX6_ticketOf 9 = .ok (.iconst 1, 1) := by decide +kernel
theorem dX6_ticketOf_10 : decode cX6_ticketOf 10 = .ok (.isub, 1) := by decide +kernel
theorem dX6_ticketOf_11 : decode cX6_ticketOf 11 = .ok (.invokestatic 51, 3) := by decide +kernel
theorem dX6_ticketOf_14 : decode cX6_ticketOf 14 = .ok (.ifCond .ne 13, 3) := by decide +kernel
theorem dX6_ticketOf_17 : decode cX6_ticketOf 17 = .ok (.new 109, 3) := by decide +kernel
theorem dX6_ticketOf_20 : decode cX6_ticketOf 20 = .ok (.dup, 1) := by decide +kernel
theorem dX6_ticketOf_21 : decode cX6_ticketOf 21 = .ok (.ldc 144, 2) := by decide +kernel
theorem dX6_ticketOf_23 : decode cX6_ticketOf 23 = .ok (.invokespecial 113, 3) := by decide +kernel
theorem dX6_ticketOf_26 : decode cX6_ticketOf 26 = .ok (.athrow, 1) := by decide +kernel
theorem dX6_ticketOf_27 : decode cX6_ticketOf 27 = .ok (.aload_n 0, 1) := by decide +kernel
theorem dX6_ticketOf_28 : decode cX6_ticketOf 28 = .ok (.getfield 32, 3) := by decide +kernel
theorem dX6_ticketOf_31 : decode cX6_ticketOf 31 = .ok (.iload_n 1, 1) := by decide +kernel
theorem dX6_ticketOf_32 : decode cX6_ticketOf 32 = .ok (.invokevirtual 66, 3) := by decide +kernel
theorem dX6_ticketOf_35 : decode cX6_ticketOf 35 = .ok (.checkcast 146, 3) := by decide +kernel
theorem dX6_ticketOf_38 : decode cX6_ticketOf 38 = .ok (.getfield 148, 3) := by decide +kernel
theorem dX6_ticketOf_41 : decode cX6_ticketOf 41 = .ok (.getfield 141, 3) := by decide +kernel
theorem dX6_ticketOf_44 : decode cX6_ticketOf 44 = .ok (.ireturn, 1) := by decide +kernel
theorem dX6_mails_0 : decode cX6_mails 0 = .ok (.aload_n 0, 1) := by decide +kernel
theorem dX6_mails_1 : decode cX6_mails 1 = .ok (.getfield 32, 3) := by decide +kernel
theorem dX6_mails_4 : decode cX6_mails 4 = .ok (.invokevirtual 62, 3) := by decide +kernel
theorem dX6_mails_7 : decode cX6_mails 7 = .ok (.ireturn, 1) := by decide +kernel
theorem dX6_mailsOf_0 : decode cX6_mailsOf 0 = .ok (.aload_n 0, 1) := by decide +kernel
theorem dX6_mailsOf_1 : decode cX6_mailsOf 1 = .ok (.iload_n 1, 1) := by decide +kernel
theorem dX6_mailsOf_2 : decode cX6_mailsOf 2 = .ok (.invokevirtual 152, 3) := by decide +kernel
theorem dX6_mailsOf_5 : decode cX6_mailsOf 5 = .ok (.getfield 156, 3) := by decide +kernel
theorem dX6_mailsOf_8 : decode cX6_mailsOf 8 = .ok (.invokevirtual 62, 3) := by decide +kernel
theorem dX6_mailsOf_11 : decode cX6_mailsOf 11 = .ok (.ireturn, 1) := by decide +kernel
theorem dX6_mailAt_0 : decode cX6_mailAt 0 = .ok (.aload_n 0, 1) := by decide +kernel
theorem dX6_mailAt_1 : decode cX6_mailAt 1 = .ok (.iload_n 1, 1) := by decide +kernel
theorem dX6_mailAt_2 : decode cX6_mailAt 2 = .ok (.invokevirtual 152, 3) := by decide +kernel
theorem dX6_mailAt_5 : decode cX6_mailAt 5 = .ok (.astore_n 3, 1) := by decide +kernel
theorem dX6_mailAt_6 : decode cX6_mailAt 6 = .ok (.iload_n 2, 1) := by decide +kernel
theorem dX6_mailAt_7 : decode cX6_mailAt 7 = .ok (.iconst 0, 1) := by decide +kernel
theorem dX6_mailAt_8 : decode cX6_mailAt 8 = .ok (.aload_n 3, 1) := by decide +kernel
theorem dX6_mailAt_9 : decode cX6_mailAt 9 = .ok (.getfield 156, 3) := by decide +kernel
theorem dX6_mailAt_12 : decode cX6_mailAt 12 = .ok (.invokevirtual 62, 3) := by decide +kernel
theorem dX6_mailAt_15 : decode cX6_mailAt 15 = .ok (.iconst 1, 1) := by decide +kernel
theorem dX6_mailAt_16 : decode cX6_mailAt 16 = .ok (.isub, 1) := by decide +kernel
theorem dX6_mailAt_17 : decode cX6_mailAt 17 = .ok (.invokestatic 51, 3) := by decide +kernel
theorem dX6_mailAt_20 : decode cX6_mailAt 20 = .ok (.ifCond .ne 13, 3) := by decide +kernel
theorem dX6_mailAt_23 : decode cX6_mailAt 23 = .ok (.new 109, 3) := by decide +kernel
theorem dX6_mailAt_26 : decode cX6_mailAt 26 = .ok (.dup, 1) := by decide +kernel
theorem dX6_mailAt_27 : decode cX6_mailAt 27 = .ok (.ldc 157, 2) := by decide +kernel
theorem dX6_mailAt_29 : decode cX6_mailAt 29 = .ok (.invokespecial 113, 3) := by decide +kernel
theorem dX6_mailAt_32 : decode cX6_mailAt 32 = .ok (.athrow, 1) := by decide +kernel
theorem dX6_mailAt_33 : decode cX6_mailAt 33 = .ok (.aload_n 3, 1) := by decide +kernel
theorem dX6_mailAt_34 : decode cX6_mailAt 34 = .ok (.getfield 156, 3) := by decide +kernel
theorem dX6_mailAt_37 : decode cX6_mailAt 37 = .ok (.iload_n 2, 1) := by decide +kernel
theorem dX6_mailAt_38 : decode cX6_mailAt 38 = .ok (.invokevirtual 66, 3) := by decide +kernel
theorem dX6_mailAt_41 : decode cX6_mailAt 41 = .ok (.checkcast 146, 3) := by decide +kernel
theorem dX6_mailAt_44 : decode cX6_mailAt 44 = .ok (.getfield 159, 3) := by decide +kernel
theorem dX6_mailAt_47 : decode cX6_mailAt 47 = .ok (.ireturn, 1) := by decide +kernel
theorem dX6_tickets_0 : decode cX6_tickets 0 = .ok (.aload_n 0, 1) := by decide +kernel
theorem dX6_tickets_1 : decode cX6_tickets 1 = .ok (.getfield 36, 3) := by decide +kernel
theorem dX6_tickets_4 : decode cX6_tickets 4 = .ok (.invokevirtual 62, 3) := by decide +kernel
theorem dX6_tickets_7 : decode cX6_tickets 7 = .ok (.ireturn, 1) := by decide +kernel
theorem dX6_stateOf_0 : decode cX6_stateOf 0 = .ok (.aload_n 0, 1) := by decide +kernel
theorem dX6_stateOf_1 : decode cX6_stateOf 1 = .ok (.iload_n 1, 1) := by decide +kernel
theorem dX6_stateOf_2 : decode cX6_stateOf 2 = .ok (.invokevirtual 152, 3) := by decide +kernel
theorem dX6_stateOf_5 : decode cX6_stateOf 5 = .ok (.getfield 72, 3) := by decide +kernel
theorem dX6_stateOf_8 : decode cX6_stateOf 8 = .ok (.ireturn, 1) := by decide +kernel
theorem dX6_mergedInto_0 : decode cX6_mergedInto 0 = .ok (.aload_n 0, 1) := by decide +kernel
theorem dX6_mergedInto_1 : decode cX6_mergedInto 1 = .ok (.iload_n 1, 1) := by decide +kernel
theorem dX6_mergedInto_2 : decode cX6_mergedInto 2 = .ok (.invokevirtual 152, 3) := by decide +kernel
theorem dX6_mergedInto_5 : decode cX6_mergedInto 5 = .ok (.astore_n 2, 1) := by decide +kernel
theorem dX6_mergedInto_6 : decode cX6_mergedInto 6 = .ok (.aload_n 2, 1) := by decide +kernel
theorem dX6_mergedInto_7 : decode cX6_mergedInto 7 = .ok (.getfield 160, 3) := by decide +kernel
theorem dX6_mergedInto_10 : decode cX6_mergedInto 10 = .ok (.ifnonnull 13, 3) := by decide +kernel
theorem dX6_mergedInto_13 : decode cX6_mergedInto 13 = .ok (.new 109, 3) := by decide +kernel
theorem dX6_mergedInto_16 : decode cX6_mergedInto 16 = .ok (.dup, 1) := by decide +kernel
theorem dX6_mergedInto_17 : decode cX6_mergedInto 17 = .ok (.ldc 163, 2) := by decide +kernel
theorem dX6_mergedInto_19 : decode cX6_mergedInto 19 = .ok (.invokespecial 113, 3) := by decide +kernel
theorem dX6_mergedInto_22 : decode cX6_mergedInto 22 = .ok (.athrow, 1) := by decide +kernel
theorem dX6_mergedInto_23 : decode cX6_mergedInto 23 = .ok (.aload_n 2, 1) := by decide +kernel
theorem dX6_mergedInto_24 : decode cX6_mergedInto 24 = .ok (.getfield 160, 3) := by decide +kernel
theorem dX6_mergedInto_27 : decode cX6_mergedInto 27 = .ok (.ifnull 11, 3) := by decide +kernel
theorem dX6_mergedInto_30 : decode cX6_mergedInto 30 = .ok (.aload_n 2, 1) := by decide +kernel
theorem dX6_mergedInto_31 : decode cX6_mergedInto 31 = .ok (.getfield 160, 3) := by decide +kernel
theorem dX6_mergedInto_34 : decode cX6_mergedInto 34 = .ok (.astore_n 2, 1) := by decide +kernel
theorem dX6_mergedInto_35 : decode cX6_mergedInto 35 = .ok (.goto (-12), 3) := by decide +kernel
theorem dX6_mergedInto_38 : decode cX6_mergedInto 38 = .ok (.aload_n 2, 1) := by decide +kernel
theorem dX6_mergedInto_39 : decode cX6_mergedInto 39 = .ok (.getfield 141, 3) := by decide +kernel
theorem dX6_mergedInto_42 : decode cX6_mergedInto 42 = .ok (.ireturn, 1) := by decide +kernel
theorem dX6_setTopic_0 : decode cX6_setTopic 0 = .ok (.aload_n 0, 1) := by decide +kernel
theorem dX6_setTopic_1 : decode cX6_setTopic 1 = .ok (.iload_n 1, 1) := by decide +kernel
theorem dX6_setTopic_2 : decode cX6_setTopic 2 = .ok (.invokevirtual 152, 3) := by decide +kernel
theorem dX6_setTopic_5 : decode cX6_setTopic 5 = .ok (.astore_n 3, 1) := by decide +kernel
theorem dX6_setTopic_6 : decode cX6_setTopic 6 = .ok (.iload_n 2, 1) := by decide +kernel
theorem dX6_setTopic_7 : decode cX6_setTopic 7 = .ok (.invokestatic 101, 3) := by decide +kernel
theorem dX6_setTopic_10 : decode cX6_setTopic 10 = .ok (.ifCond .ne 13, 3) := by decide +kernel
theorem dX6_setTopic_13 : decode cX6_setTopic 13 = .ok (.new 55, 3) := by decide +kernel
theorem dX6_setTopic_16 : decode cX6_setTopic 16 = .ok (.dup, 1) := by decide +kernel
theorem dX6_setTopic_17 : decode cX6_setTopic 17 = .ok (.ldc 165, 2) := by decide +kernel
theorem dX6_setTopic_19 : decode cX6_setTopic 19 = .ok (.invokespecial 59, 3) := by decide +kernel
theorem dX6_setTopic_22 : decode cX6_setTopic 22 = .ok (.athrow, 1) := by decide +kernel
theorem dX6_setTopic_23 : decode cX6_setTopic 23 = .ok (.aload_n 3, 1) := by decide +kernel
theorem dX6_setTopic_24 : decode cX6_setTopic 24 = .ok (.invokestatic 167, 3) := by decide +kernel
theorem dX6_setTopic_27 : decode cX6_setTopic 27 = .ok (.aload_n 3, 1) := by decide +kernel
theorem dX6_setTopic_28 : decode cX6_setTopic 28 = .ok (.getfield 170, 3) := by decide +kernel
theorem dX6_setTopic_31 : decode cX6_setTopic 31 = .ok (.istore 4, 2) := by decide +kernel
theorem dX6_setTopic_33 : decode cX6_setTopic 33 = .ok (.aload_n 0, 1) := by decide +kernel
theorem dX6_setTopic_34 : decode cX6_setTopic 34 = .ok (.aload_n 3, 1) := by decide +kernel
theorem dX6_setTopic_35 : decode cX6_setTopic 35 = .ok (.invokevirtual 130, 3) := by decide +kernel
theorem dX6_setTopic_38 : decode cX6_setTopic 38 = .ok (.aload_n 3, 1) := by decide +kernel
theorem dX6_setTopic_39 : decode cX6_setTopic 39 = .ok (.iload_n 2, 1) := by decide +kernel
theorem dX6_setTopic_40 : decode cX6_setTopic 40 = .ok (.putfield 170, 3) := by decide +kernel
theorem dX6_setTopic_43 : decode cX6_setTopic 43 = .ok (.aload_n 3, 1) := by decide +kernel
theorem dX6_setTopic_44 : decode cX6_setTopic 44 = .ok (.getfield 173, 3) := by decide +kernel
theorem dX6_setTopic_47 : decode cX6_setTopic 47 = .ok (.ifnull 18, 3) := by decide +kernel
theorem dX6_setTopic_50 : decode cX6_setTopic 50 = .ok (.aload_n 3, 1) := by decide +kernel
theorem dX6_setTopic_51 : decode cX6_setTopic 51 = .ok (.getfield 173, 3) := by decide +kernel
theorem dX6_setTopic_54 : decode cX6_setTopic 54 = .ok (.iload_n 2, 1) := by decide +kernel
theorem dX6_setTopic_55 : decode cX6_setTopic 55 = .ok (.invokevirtual 177, 3) := by decide +kernel
theorem dX6_setTopic_58 : decode cX6_setTopic 58 = .ok (.ifCond .ne 7, 3) := by decide +kernel
theorem dX6_setTopic_61 : decode cX6_setTopic 61 = .ok (.aload_n 3, 1) := by decide +kernel
theorem dX6_setTopic_62 : decode cX6_setTopic 62 = .ok (.invokevirtual 182, 3) := by decide +kernel
theorem dX6_setTopic_65 : decode cX6_setTopic 65 = .ok (.aload_n 0, 1) := by decide +kernel
theorem dX6_setTopic_66 : decode cX6_setTopic 66 = .ok (.aload_n 3, 1) := by decide +kernel
theorem dX6_setTopic_67 : decode cX6_setTopic 67 = .ok (.invokevirtual 138, 3) := by decide +kernel
theorem dX6_setTopic_70 : decode cX6_setTopic 70 = .ok (.iload 4, 2) := by decide +kernel
theorem dX6_setTopic_72 : decode cX6_setTopic 72 = .ok (.ireturn, 1) := by decide +kernel
theorem dX6_clock_0 : decode cX6_clock 0 = .ok (.aload_n 0, 1) := by decide +kernel
theorem dX6_clock_1 : decode cX6_clock 1 = .ok (.iload_n 1, 1) := by decide +kernel
theorem dX6_clock_2 : decode cX6_clock 2 = .ok (.invokevirtual 152, 3) := by decide +kernel
theorem dX6_clock_5 : decode cX6_clock 5 = .ok (.astore_n 2, 1) := by decide +kernel
theorem dX6_clock_6 : decode cX6_clock 6 = .ok (.aload_n 2, 1) := by decide +kernel
theorem dX6_clock_7 : decode cX6_clock 7 = .ok (.invokestatic 167, 3) := by decide +kernel
theorem dX6_clock_10 : decode cX6_clock 10 = .ok (.aload_n 2, 1) := by decide +kernel
theorem dX6_clock_11 : decode cX6_clock 11 = .ok (.getfield 185, 3) := by decide +kernel
theorem dX6_clock_14 : decode cX6_clock 14 = .ok (.ireturn, 1) := by decide +kernel
theorem dX6_leftOf_0 : decode cX6_leftOf 0 = .ok (.aload_n 0, 1) := by decide +kernel
theorem dX6_leftOf_1 : decode cX6_leftOf 1 = .ok (.iload_n 1, 1) := by decide +kernel
theorem dX6_leftOf_2 : decode cX6_leftOf 2 = .ok (.invokevirtual 152, 3) := by decide +kernel
theorem dX6_leftOf_5 : decode cX6_leftOf 5 = .ok (.astore_n 2, 1) := by decide +kernel
theorem dX6_leftOf_6 : decode cX6_leftOf 6 = .ok (.aload_n 2, 1) := by decide +kernel
theorem dX6_leftOf_7 : decode cX6_leftOf 7 = .ok (.invokestatic 167, 3) := by decide +kernel
theorem dX6_leftOf_10 : decode cX6_leftOf 10 = .ok (.aload_n 2, 1) := by decide +kernel
theorem dX6_leftOf_11 : decode cX6_leftOf 11 = .ok (.invokevirtual 188, 3) := by decide +kernel
theorem dX6_leftOf_14 : decode cX6_leftOf 14 = .ok (.ireturn, 1) := by decide +kernel
theorem dX6_isBreached_0 : decode cX6_isBreached 0 = .ok (.aload_n 0, 1) := by decide +kernel
theorem dX6_isBreached_1 : decode cX6_isBreached 1 = .ok (.iload_n 1, 1) := by decide +kernel
theorem dX6_isBreached_2 : decode cX6_isBreached 2 = .ok (.invokevirtual 152, 3) := by decide +kernel
theorem dX6_isBreached_5 : decode cX6_isBreached 5 = .ok (.astore_n 2, 1) := by decide +kernel
theorem dX6_isBreached_6 : decode cX6_isBreached 6 = .ok (.aload_n 2, 1) := by decide +kernel
theorem dX6_isBreached_7 : decode cX6_isBreached 7 = .ok (.invokevirtual 191, 3) := by decide +kernel
theorem dX6_isBreached_10 : decode cX6_isBreached 10 = .ok (.ifCond .eq 14, 3) := by decide +kernel
theorem dX6_isBreached_13 : decode cX6_isBreached 13 = .ok (.aload_n 2, 1) := by decide +kernel
theorem dX6_isBreached_14 : decode cX6_isBreached 14 = .ok (.getfield 195, 3) := by decide +kernel
theorem dX6_isBreached_17 : decode cX6_isBreached 17 = .ok (.ifCond .eq 7, 3) := by decide +kernel
theorem dX6_isBreached_20 : decode cX6_isBreached 20 = .ok (.iconst 1, 1) := by decide +kernel
theorem dX6_isBreached_21 : decode cX6_isBreached 21 = .ok (.goto 4, 3) := by decide +kernel
theorem dX6_isBreached_24 : decode cX6_isBreached 24 = .ok (.iconst 0, 1) := by decide +kernel
theorem dX6_isBreached_25 : decode cX6_isBreached 25 = .ok (.ireturn, 1) := by decide +kernel
theorem dX6_addAgent_0 : decode cX6_addAgent 0 = .ok (.iload_n 1, 1) := by decide +kernel
theorem dX6_addAgent_1 : decode cX6_addAgent 1 = .ok (.iconst 0, 1) := by decide +kernel
theorem dX6_addAgent_2 : decode cX6_addAgent 2 = .ok (.bipush 63, 2) := by decide +kernel
theorem dX6_addAgent_4 : decode cX6_addAgent 4 = .ok (.invokestatic 51, 3) := by decide +kernel
theorem dX6_addAgent_7 : decode cX6_addAgent 7 = .ok (.ifCond .ne 13, 3) := by decide +kernel
theorem dX6_addAgent_10 : decode cX6_addAgent 10 = .ok (.new 55, 3) := by decide +kernel
theorem dX6_addAgent_13 : decode cX6_addAgent 13 = .ok (.dup, 1) := by decide +kernel
theorem dX6_addAgent_14 : decode cX6_addAgent 14 = .ok (.ldc 199, 2) := by decide +kernel
theorem dX6_addAgent_16 : decode cX6_addAgent 16 = .ok (.invokespecial 59, 3) := by decide +kernel
theorem dX6_addAgent_19 : decode cX6_addAgent 19 = .ok (.athrow, 1) := by decide +kernel
theorem dX6_addAgent_20 : decode cX6_addAgent 20 = .ok (.aload_n 0, 1) := by decide +kernel
theorem dX6_addAgent_21 : decode cX6_addAgent 21 = .ok (.getfield 39, 3) := by decide +kernel
theorem dX6_addAgent_24 : decode cX6_addAgent 24 = .ok (.invokevirtual 62, 3) := by decide +kernel
theorem dX6_addAgent_27 : decode cX6_addAgent 27 = .ok (.bipush 6, 2) := by decide +kernel
theorem dX6_addAgent_29 : decode cX6_addAgent 29 = .ok (.if_icmp .lt 13, 3) := by decide +kernel
theorem dX6_addAgent_32 : decode cX6_addAgent 32 = .ok (.new 118, 3) := by decide +kernel
theorem dX6_addAgent_35 : decode cX6_addAgent 35 = .ok (.dup, 1) := by decide +kernel
theorem dX6_addAgent_36 : decode cX6_addAgent 36 = .ok (.ldc 201, 2) := by decide +kernel
theorem dX6_addAgent_38 : decode cX6_addAgent 38 = .ok (.invokespecial 122, 3) := by decide +kernel
theorem dX6_addAgent_41 : decode cX6_addAgent 41 = .ok (.athrow, 1) := by decide +kernel
theorem dX6_addAgent_42 : decode cX6_addAgent 42 = .ok (.aload_n 0, 1) := by decide +kernel
theorem dX6_addAgent_43 : decode cX6_addAgent 43 = .ok (.getfield 39, 3) := by decide +kernel
theorem dX6_addAgent_46 : decode cX6_addAgent 46 = .ok (.new 178, 3) := by decide +kernel
theorem dX6_addAgent_49 : decode cX6_addAgent 49 = .ok (.dup, 1) := by decide +kernel
theorem dX6_addAgent_50 : decode cX6_addAgent 50 = .ok (.aload_n 0, 1) := by decide +kernel
theorem dX6_addAgent_51 : decode cX6_addAgent 51 = .ok (.getfield 39, 3) := by decide +kernel
theorem dX6_addAgent_54 : decode cX6_addAgent 54 = .ok (.invokevirtual 62, 3) := by decide +kernel
theorem dX6_addAgent_57 : decode cX6_addAgent 57 = .ok (.iload_n 1, 1) := by decide +kernel
theorem dX6_addAgent_58 : decode cX6_addAgent 58 = .ok (.invokespecial 203, 3) := by decide +kernel
theorem dX6_addAgent_61 : decode cX6_addAgent 61 = .ok (.invokevirtual 126, 3) := by decide +kernel
theorem dX6_addAgent_64 : decode cX6_addAgent 64 = .ok (.pop, 1) := by decide +kernel
theorem dX6_addAgent_65 : decode cX6_addAgent 65 = .ok (.aload_n 0, 1) := by decide +kernel
theorem dX6_addAgent_66 : decode cX6_addAgent 66 = .ok (.getfield 39, 3) := by decide +kernel
theorem dX6_addAgent_69 : decode cX6_addAgent 69 = .ok (.invokevirtual 62, 3) := by decide +kernel
theorem dX6_addAgent_72 : decode cX6_addAgent 72 = .ok (.iconst 1, 1) := by decide +kernel
theorem dX6_addAgent_73 : decode cX6_addAgent 73 = .ok (.isub, 1) := by decide +kernel
theorem dX6_addAgent_74 : decode cX6_addAgent 74 = .ok (.ireturn, 1) := by decide +kernel
theorem dX6_learn_0 : decode cX6_learn 0 = .ok (.aload_n 0, 1) := by decide +kernel
theorem dX6_learn_1 : decode cX6_learn 1 = .ok (.iload_n 1, 1) := by decide +kernel
theorem dX6_learn_2 : decode cX6_learn 2 = .ok (.invokevirtual 206, 3) := by decide +kernel
theorem dX6_learn_5 : decode cX6_learn 5 = .ok (.astore_n 3, 1) := by decide +kernel
theorem dX6_learn_6 : decode cX6_learn 6 = .ok (.iload_n 2, 1) := by decide +kernel
theorem dX6_learn_7 : decode cX6_learn 7 = .ok (.invokestatic 101, 3) := by decide +kernel
theorem dX6_learn_10 : decode cX6_learn 10 = .ok (.ifCond .ne 13, 3) := by decide +kernel
theorem dX6_learn_13 : decode cX6_learn 13 = .ok (.new 55, 3) := by decide +kernel
theorem dX6_learn_16 : decode cX6_learn 16 = .ok (.dup, 1) := by decide +kernel
theorem dX6_learn_17 : decode cX6_learn 17 = .ok (.ldc 165, 2) := by decide +kernel
theorem dX6_learn_19 : decode cX6_learn 19 = .ok (.invokespecial 59, 3) := by decide +kernel
theorem dX6_learn_22 : decode cX6_learn 22 = .ok (.athrow, 1) := by decide +kernel
theorem dX6_learn_23 : decode cX6_learn 23 = .ok (.aload_n 3, 1) := by decide +kernel
theorem dX6_learn_24 : decode cX6_learn 24 = .ok (.iload_n 2, 1) := by decide +kernel
theorem dX6_learn_25 : decode cX6_learn 25 = .ok (.invokevirtual 177, 3) := by decide +kernel
theorem dX6_learn_28 : decode cX6_learn 28 = .ok (.ifCond .eq 13, 3) := by decide +kernel
theorem dX6_learn_31 : decode cX6_learn 31 = .ok (.new 210, 3) := by decide +kernel
theorem dX6_learn_34 : decode cX6_learn 34 = .ok (.dup, 1) := by decide +kernel
theorem dX6_learn_35 : decode cX6_learn 35 = .ok (.ldc 212, 2) := by decide +kernel
theorem dX6_learn_37 : decode cX6_learn 37 = .ok (.invokespecial 214, 3) := by decide +kernel
theorem dX6_learn_40 : decode cX6_learn 40 = .ok (.athrow, 1) := by decide +kernel
theorem dX6_learn_41 : decode cX6_learn 41 = .ok (.aload_n 3, 1) := by decide +kernel
theorem dX6_learn_42 : decode cX6_learn 42 = .ok (.dup, 1) := by decide +kernel
theorem dX6_learn_43 : decode cX6_learn 43 = .ok (.getfield 215, 3) := by decide +kernel
theorem dX6_learn_46 : decode cX6_learn 46 = .ok (.iconst 1, 1) := by decide +kernel
theorem dX6_learn_47 : decode cX6_learn 47 = .ok (.iload_n 2, 1) := by decide +kernel
theorem dX6_learn_48 : decode cX6_learn 48 = .ok (.ishl, 1) := by decide +kernel
theorem dX6_learn_49 : decode cX6_learn 49 = .ok (.ior, 1) := by decide +kernel
theorem dX6_learn_50 : decode cX6_learn 50 = .ok (.putfield 215, 3) := by decide +kernel
theorem dX6_learn_53 : decode cX6_learn 53 = .ok (.aload_n 3, 1) := by decide +kernel
theorem dX6_learn_54 : decode cX6_learn 54 = .ok (.getfield 215, 3) := by decide +kernel
theorem dX6_learn_57 : decode cX6_learn 57 = .ok (.invokestatic 218, 3) := by decide +kernel
theorem dX6_learn_60 : decode cX6_learn 60 = .ok (.ireturn, 1) := by decide +kernel
theorem dX6_setOnShift_0 : decode cX6_setOnShift 0 = .ok (.aload_n 0, 1) := by decide +kernel
theorem dX6_setOnShift_1 : decode cX6_setOnShift 1 = .ok (.iload_n 1, 1) := by decide +kernel
theorem dX6_setOnShift_2 : decode cX6_setOnShift 2 = .ok (.invokevirtual 206, 3) := by decide +kernel
theorem dX6_setOnShift_5 : decode cX6_setOnShift 5 = .ok (.astore_n 3, 1) := by decide +kernel
theorem dX6_setOnShift_6 : decode cX6_setOnShift 6 = .ok (.aload_n 3, 1) := by decide +kernel
theorem dX6_setOnShift_7 : decode cX6_setOnShift 7 = .ok (.getfield 224, 3) := by decide +kernel
theorem dX6_setOnShift_10 : decode cX6_setOnShift 10 = .ok (.istore 4, 2) := by decide +kernel
theorem dX6_setOnShift_12 : decode cX6_setOnShift 12 = .ok (.aload_n 3, 1) := by decide +kernel
theorem dX6_setOnShift_13 : decode cX6_setOnShift 13 = .ok (.iload_n 2, 1) := by decide +kernel
theorem dX6_setOnShift_14 : decode cX6_setOnShift 14 = .ok (.putfield 224, 3) := by decide +kernel
theorem dX6_setOnShift_17 : decode cX6_setOnShift 17 = .ok (.iload_n 2, 1) := by decide +kernel
theorem dX6_setOnShift_18 : decode cX6_setOnShift 18 = .ok (.ifCond .ne 8, 3) := by decide +kernel
theorem dX6_setOnShift_21 : decode cX6_setOnShift 21 = .ok (.aload_n 0, 1) := by decide +kernel
theorem dX6_setOnShift_22 : decode cX6_setOnShift 22 = .ok (.aload_n 3, 1) := by decide +kernel
theorem dX6_setOnShift_23 : decode cX6_setOnShift 23 = .ok (.invokevirtual 227, 3) := by decide +kernel
theorem dX6_setOnShift_26 : decode cX6_setOnShift 26 = .ok (.iload 4, 2) := by decide +kernel
theorem dX6_setOnShift_28 : decode cX6_setOnShift 28 = .ok (.ireturn, 1) := by decide +kernel
theorem dX6_held_0 : decode cX6_held 0 = .ok (.aload_n 0, 1) := by decide +kernel
theorem dX6_held_1 : decode cX6_held 1 = .ok (.iload_n 1, 1) := by decide +kernel
theorem dX6_held_2 : decode cX6_held 2 = .ok (.invokevirtual 206, 3) := by decide +kernel
theorem dX6_held_5 : decode cX6_held 5 = .ok (.getfield 231, 3) := by decide +kernel
theorem dX6_held_8 : decode cX6_held 8 = .ok (.ireturn, 1) := by decide +kernel
theorem dX6_agentOf_0 : decode cX6_agentOf 0 = .ok (.aload_n 0, 1) := by decide +kernel
theorem dX6_agentOf_1 : decode cX6_agentOf 1 = .ok (.iload_n 1, 1) := by decide +kernel
theorem dX6_agentOf_2 : decode cX6_agentOf 2 = .ok (.invokevirtual 152, 3) := by decide +kernel
theorem dX6_agentOf_5 : decode cX6_agentOf 5 = .ok (.getfield 173, 3) := by decide +kernel
theorem dX6_agentOf_8 : decode cX6_agentOf 8 = .ok (.astore_n 2, 1) := by decide +kernel
theorem dX6_agentOf_9 : decode cX6_agentOf 9 = .ok (.aload_n 2, 1) := by decide +kernel
theorem dX6_agentOf_10 : decode cX6_agentOf 10 = .ok (.ifnonnull 13, 3) := by decide +kernel
theorem dX6_agentOf_13 : decode cX6_agentOf 13 = .ok (.new 109, 3) := by decide +kernel
theorem dX6_agentOf_16 : decode cX6_agentOf 16 = .ok (.dup, 1) := by decide +kernel
theorem dX6_agentOf_17 : decode cX6_agentOf 17 = .ok (.ldc 234, 2) := by decide +kernel
theorem dX6_agentOf_19 : decode cX6_agentOf 19 = .ok (.invokespecial 113, 3) := by decide +kernel
theorem dX6_agentOf_22 : decode cX6_agentOf 22 = .ok (.athrow, 1) := by decide +kernel
theorem dX6_agentOf_23 : decode cX6_agentOf 23 = .ok (.aload_n 2, 1) := by decide +kernel
theorem dX6_agentOf_24 : decode cX6_agentOf 24 = .ok (.getfield 236, 3) := by decide +kernel
theorem dX6_agentOf_27 : decode cX6_agentOf 27 = .ok (.ireturn, 1) := by decide +kernel
theorem dX6_nextFor_0 : decode cX6_nextFor 0 = .ok (.aload_n 0, 1) := by decide +kernel
theorem dX6_nextFor_1 : decode cX6_nextFor 1 = .ok (.aload_n 0, 1) := by decide +kernel
theorem dX6_nextFor_2 : decode cX6_nextFor 2 = .ok (.iload_n 1, 1) := by decide +kernel
theorem dX6_nextFor_3 : decode cX6_nextFor 3 = .ok (.invokevirtual 206, 3) := by decide +kernel
theorem dX6_nextFor_6 : decode cX6_nextFor 6 = .ok (.invokevirtual 237, 3) := by decide +kernel
theorem dX6_nextFor_9 : decode cX6_nextFor 9 = .ok (.astore_n 2, 1) := by decide +kernel
theorem dX6_nextFor_10 : decode cX6_nextFor 10 = .ok (.aload_n 2, 1) := by decide +kernel
theorem dX6_nextFor_11 : decode cX6_nextFor 11 = .ok (.ifnonnull 13, 3) := by decide +kernel
theorem dX6_nextFor_14 : decode cX6_nextFor 14 = .ok (.new 109, 3) := by decide +kernel
theorem dX6_nextFor_17 : decode cX6_nextFor 17 = .ok (.dup, 1) := by decide +kernel
theorem dX6_nextFor_18 : decode cX6_nextFor 18 = .ok (.ldc 241, 2) := by decide +kernel
theorem dX6_nextFor_20 : decode cX6_nextFor 20 = .ok (.invokespecial 113, 3) := by decide +kernel
theorem dX6_nextFor_23 : decode cX6_nextFor 23 = .ok (.athrow, 1) := by decide +kernel
theorem dX6_nextFor_24 : decode cX6_nextFor 24 = .ok (.aload_n 2, 1) := by decide +kernel
theorem dX6_nextFor_25 : decode cX6_nextFor 25 = .ok (.getfield 141, 3) := by decide +kernel
theorem dX6_nextFor_28 : decode cX6_nextFor 28 = .ok (.ireturn, 1) := by decide +kernel
theorem dX6_nextByTickets_0 : decode cX6_nextByTickets 0 = .ok (.aload_n 0, 1) := by decide +kernel
theorem dX6_nextByTickets_1 : decode cX6_nextByTickets 1 = .ok (.aload_n 0, 1) := by decide +kernel
theorem dX6_nextByTickets_2 : decode cX6_nextByTickets 2 = .ok (.iload_n 1, 1) := by decide +kernel
theorem dX6_nextByTickets_3 : decode cX6_nextByTickets 3 = .ok (.invokevirtual 206, 3) := by decide +kernel
theorem dX6_nextByTickets_6 : decode cX6_nextByTickets 6 = .ok (.invokevirtual 243, 3) := by decide +kernel
theorem dX6_nextByTickets_9 : decode cX6_nextByTickets 9 = .ok (.astore_n 2, 1) := by decide +kernel
theorem dX6_nextByTickets_10 : decode cX6_nextByTickets 10 = .ok (.aload_n 2, 1) := by decide +kernel
theorem dX6_nextByTickets_11 : decode cX6_nextByTickets 11 = .ok (.ifnonnull 13, 3) := by decide +kernel
theorem dX6_nextByTickets_14 : decode cX6_nextByTickets 14 = .ok (.new 109, 3) := by decide +kernel
theorem dX6_nextByTickets_17 : decode cX6_nextByTickets 17 = .ok (.dup, 1) := by decide +kernel
theorem dX6_nextByTickets_18 : decode cX6_nextByTickets 18 = .ok (.ldc 241, 2) := by decide +kernel
theorem dX6_nextByTickets_20 : decode cX6_nextByTickets 20 = .ok (.invokespecial 113, 3) := by decide +kernel
theorem dX6_nextByTickets_23 : decode cX6_nextByTickets 23 = .ok (.athrow, 1) := by decide +kernel
theorem dX6_nextByTickets_24 : decode cX6_nextByTickets 24 = .ok (.aload_n 2, 1) := by decide +kernel
theorem dX6_nextByTickets_25 : decode cX6_nextByTickets 25 = .ok (.getfield 141, 3) := by decide +kernel
theorem dX6_nextByTickets_28 : decode cX6_nextByTickets 28 = .ok (.ireturn, 1) := by decide +kernel
theorem dX6_waiting_0 : decode cX6_waiting 0 = .ok (.aload_n 0, 1) := by decide +kernel
theorem dX6_waiting_1 : decode cX6_waiting 1 = .ok (.iload_n 1, 1) := by decide +kernel
theorem dX6_waiting_2 : decode cX6_waiting 2 = .ok (.invokevirtual 206, 3) := by decide +kernel
theorem dX6_waiting_5 : decode cX6_waiting 5 = .ok (.astore_n 2, 1) := by decide +kernel
theorem dX6_waiting_6 : decode cX6_waiting 6 = .ok (.iconst 0, 1) := by decide +kernel
theorem dX6_waiting_7 : decode cX6_waiting 7 = .ok (.istore_n 3, 1) := by decide +kernel
theorem dX6_waiting_8 : decode cX6_waiting 8 = .ok (.iconst 0, 1) := by decide +kernel
theorem dX6_waiting_9 : decode cX6_waiting 9 = .ok (.istore 4, 2) := by decide +kernel
theorem dX6_waiting_11 : decode cX6_waiting 11 = .ok (.iload 4, 2) := by decide +kernel
theorem dX6_waiting_13 : decode cX6_waiting 13 = .ok (.bipush 6, 2) := by decide +kernel
theorem dX6_waiting_15 : decode cX6_waiting 15 = .ok (.if_icmp .ge 31, 3) := by decide +kernel
theorem dX6_waiting_18 : decode cX6_waiting 18 = .ok (.aload_n 2, 1) := by decide +kernel
theorem dX6_waiting_19 : decode cX6_waiting 19 = .ok (.iload 4, 2) := by decide +kernel
theorem dX6_waiting_21 : decode cX6_waiting 21 = .ok (.invokevirtual 246, 3) := by decide +kernel
theorem dX6_waiting_24 : decode cX6_waiting 24 = .ok (.ifCond .eq 16, 3) := by decide +kernel
theorem dX6_waiting_27 : decode cX6_waiting 27 = .ok (.iload_n 3, 1) := by decide +kernel
theorem dX6_waiting_28 : decode cX6_waiting 28 = .ok (.aload_n 0, 1) := by decide +kernel
theorem dX6_waiting_29 : decode cX6_waiting 29 = .ok (.getfield 24, 3) := by decide +kernel
theorem dX6_waiting_32 : decode cX6_waiting 32 = .ok (.iload 4, 2) := by decide +kernel
theorem dX6_waiting_34 : decode cX6_waiting 34 = .ok (.aaload, 1) := by decide +kernel
theorem dX6_waiting_35 : decode cX6_waiting 35 = .ok (.invokevirtual 249, 3) := by decide +kernel
theorem dX6_waiting_38 : decode cX6_waiting 38 = .ok (.iadd, 1) := by decide +kernel
theorem dX6_waiting_39 : decode cX6_waiting 39 = .ok (.istore_n 3, 1) := by decide +kernel
theorem dX6_waiting_40 : decode cX6_waiting 40 = .ok (.iinc 4 1, 3) := by decide +kernel
theorem dX6_waiting_43 : decode cX6_waiting 43 = .ok (.goto (-32), 3) := by decide +kernel
theorem dX6_waiting_46 : decode cX6_waiting 46 = .ok (.iload_n 3, 1) := by decide +kernel
theorem dX6_waiting_47 : decode cX6_waiting 47 = .ok (.ireturn, 1) := by decide +kernel
theorem dX6_take_0 : decode cX6_take 0 = .ok (.aload_n 0, 1) := by decide +kernel
theorem dX6_take_1 : decode cX6_take 1 = .ok (.iload_n 1, 1) := by decide +kernel
theorem dX6_take_2 : decode cX6_take 2 = .ok (.invokevirtual 206, 3) := by decide +kernel
theorem dX6_take_5 : decode cX6_take 5 = .ok (.astore_n 2, 1) := by decide +kernel
theorem dX6_take_6 : decode cX6_take 6 = .ok (.aload_n 2, 1) := by decide +kernel
theorem dX6_take_7 : decode cX6_take 7 = .ok (.getfield 224, 3) := by decide +kernel
theorem dX6_take_10 : decode cX6_take 10 = .ok (.ifCond .eq 11, 3) := by decide +kernel
theorem dX6_take_13 : decode cX6_take 13 = .ok (.aload_n 2, 1) := by decide +kernel
theorem dX6_take_14 : decode cX6_take 14 = .ok (.getfield 231, 3) := by decide +kernel
theorem dX6_take_17 : decode cX6_take 17 = .ok (.iconst 3, 1) := by decide +kernel
theorem dX6_take_18 : decode cX6_take 18 = .ok (.if_icmp .lt 13, 3) := by decide +kernel
theorem dX6_take_21 : decode cX6_take 21 = .ok (.new 118, 3) := by decide +kernel
theorem dX6_take_24 : decode cX6_take 24 = .ok (.dup, 1) := by decide +kernel
theorem dX6_take_25 : decode cX6_take 25 = .ok (.ldc 252, 2) := by decide +kernel
theorem dX6_take_27 : decode cX6_take 27 = .ok (.invokespecial 122, 3) := by decide +kernel
theorem dX6_take_30 : decode cX6_take 30 = .ok (.athrow, 1) := by decide +kernel
theorem dX6_take_31 : decode cX6_take 31 = .ok (.aload_n 0, 1) := by decide +kernel
theorem dX6_take_32 : decode cX6_take 32 = .ok (.aload_n 2, 1) := by decide +kernel
theorem dX6_take_33 : decode cX6_take 33 = .ok (.invokevirtual 237, 3) := by decide +kernel
theorem dX6_take_36 : decode cX6_take 36 = .ok (.astore_n 3, 1) := by decide +kernel
theorem dX6_take_37 : decode cX6_take 37 = .ok (.aload_n 3, 1) := by decide +kernel
theorem dX6_take_38 : decode cX6_take 38 = .ok (.ifnonnull 13, 3) := by decide +kernel
theorem dX6_take_41 : decode cX6_take 41 = .ok (.new 109, 3) := by decide +kernel
theorem dX6_take_44 : decode cX6_take 44 = .ok (.dup, 1) := by decide +kernel
theorem dX6_take_45 : decode cX6_take 45 = .ok (.ldc 241, 2) := by decide +kernel
theorem dX6_take_47 : decode cX6_take 47 = .ok (.invokespecial 113, 3) := by decide +kernel
theorem dX6_take_50 : decode cX6_take 50 = .ok (.athrow, 1) := by decide +kernel
theorem dX6_take_51 : decode cX6_take 51 = .ok (.aload_n 0, 1) := by decide +kernel
theorem dX6_take_52 : decode cX6_take 52 = .ok (.aload_n 3, 1) := by decide +kernel
theorem dX6_take_53 : decode cX6_take 53 = .ok (.invokevirtual 130, 3) := by decide +kernel
theorem dX6_take_56 : decode cX6_take 56 = .ok (.aload_n 3, 1) := by decide +kernel
theorem dX6_take_57 : decode cX6_take 57 = .ok (.aload_n 2, 1) := by decide +kernel
theorem dX6_take_58 : decode cX6_take 58 = .ok (.invokevirtual 254, 3) := by decide +kernel
theorem dX6_take_61 : decode cX6_take 61 = .ok (.aload_n 3, 1) := by decide +kernel
theorem dX6_take_62 : decode cX6_take 62 = .ok (.getfield 141, 3) := by decide +kernel
theorem dX6_take_65 : decode cX6_take 65 = .ok (.ireturn, 1) := by decide +kernel
theorem dX6_handOver_0 : decode cX6_handOver 0 = .ok (.aload_n 0, 1) := by decide +kernel
theorem dX6_handOver_1 : decode cX6_handOver 1 = .ok (.iload_n 1, 1) := by decide +kernel
theorem dX6_handOver_2 : decode cX6_handOver 2 = .ok (.invokevirtual 152, 3) := by decide +kernel
theorem dX6_handOver_5 : decode cX6_handOver 5 = .ok (.astore_n 3, 1) := by decide +kernel
theorem dX6_handOver_6 : decode cX6_handOver 6 = .ok (.aload_n 0, 1) := by decide +kernel
theorem dX6_handOver_7 : decode cX6_handOver 7 = .ok (.iload_n 2, 1) := by decide +kernel
theorem dX6_handOver_8 : decode cX6_handOver 8 = .ok (.invokevirtual 206, 3) := by decide +kernel
theorem dX6_handOver_11 : decode cX6_handOver 11 = .ok (.astore 4, 2) := by decide +kernel
theorem dX6_handOver_13 : decode cX6_handOver 13 = .ok (.aload_n 3, 1) := by decide +kernel
theorem dX6_handOver_14 : decode cX6_handOver 14 = .ok (.getfield 173, 3) := by decide +kernel
theorem dX6_handOver_17 : decode cX6_handOver 17 = .ok (.ifnull 21, 3) := by decide +kernel
theorem dX6_handOver_20 : decode cX6_handOver 20 = .ok (.aload_n 3, 1) := by decide +kernel
theorem dX6_handOver_21 : decode cX6_handOver 21 = .ok (.getfield 173, 3) := by decide +kernel
theorem dX6_handOver_24 : decode cX6_handOver 24 = .ok (.aload 4, 2) := by decide +kernel
theorem dX6_handOver_26 : decode cX6_handOver 26 = .ok (.if_acmp .eq 12, 3) := by decide +kernel
theorem dX6_handOver_29 : decode cX6_handOver 29 = .ok (.aload 4, 2) := by decide +kernel
theorem dX6_handOver_31 : decode cX6_handOver 31 = .ok (.getfield 231, 3) := by decide +kernel
theorem dX6_handOver_34 : decode cX6_handOver 34 = .ok (.iconst 3, 1) := by decide +kernel
theorem dX6_handOver_35 : decode cX6_handOver 35 = .ok (.if_icmp .lt 14, 3) := by decide +kernel
theorem dX6_handOver_38 : decode cX6_handOver 38 = .ok (.new 118, 3) := by decide +kernel
theorem dX6_handOver_41 : decode cX6_handOver 41 = .ok (.dup, 1) := by decide +kernel
theorem dX6_handOver_42 : decode cX6_handOver 42 = .ok (.ldc_w 257, 3) := by decide +kernel
theorem dX6_handOver_45 : decode cX6_handOver 45 = .ok (.invokespecial 122, 3) := by decide +kernel
theorem dX6_handOver_48 : decode cX6_handOver 48 = .ok (.athrow, 1) := by decide +kernel
theorem dX6_handOver_49 : decode cX6_handOver 49 = .ok (.aload 4, 2) := by decide +kernel
theorem dX6_handOver_51 : decode cX6_handOver 51 = .ok (.aload_n 3, 1) := by decide +kernel
theorem dX6_handOver_52 : decode cX6_handOver 52 = .ok (.getfield 170, 3) := by decide +kernel
theorem dX6_handOver_55 : decode cX6_handOver 55 = .ok (.invokevirtual 246, 3) := by decide +kernel
theorem dX6_handOver_58 : decode cX6_handOver 58 = .ok (.ifCond .ne 14, 3) := by decide +kernel
theorem dX6_handOver_61 : decode cX6_handOver 61 = .ok (.new 210, 3) := by decide +kernel
theorem dX6_handOver_64 : decode cX6_handOver 64 = .ok (.dup, 1) := by decide +kernel
theorem dX6_handOver_65 : decode cX6_handOver 65 = .ok (.ldc_w 259, 3) := by decide +kernel
theorem dX6_handOver_68 : decode cX6_handOver 68 = .ok (.invokespecial 214, 3) := by decide +kernel
theorem dX6_handOver_71 : decode cX6_handOver 71 = .ok (.athrow, 1) := by decide +kernel
theorem dX6_handOver_72 : decode cX6_handOver 72 = .ok (.aload_n 3, 1) := by decide +kernel
theorem dX6_handOver_73 : decode cX6_handOver 73 = .ok (.invokevirtual 182, 3) := by decide +kernel
theorem dX6_handOver_76 : decode cX6_handOver 76 = .ok (.aload_n 3, 1) := by decide +kernel
theorem dX6_handOver_77 : decode cX6_handOver 77 = .ok (.aload 4, 2) := by decide +kernel
theorem dX6_handOver_79 : decode cX6_handOver 79 = .ok (.invokevirtual 254, 3) := by decide +kernel
theorem dX6_handOver_82 : decode cX6_handOver 82 = .ok (.aload_n 3, 1) := by decide +kernel
theorem dX6_handOver_83 : decode cX6_handOver 83 = .ok (.dup, 1) := by decide +kernel
theorem dX6_handOver_84 : decode cX6_handOver 84 = .ok (.getfield 261, 3) := by decide +kernel
theorem dX6_handOver_87 : decode cX6_handOver 87 = .ok (.iconst 1, 1) := by decide +kernel
theorem dX6_handOver_88 : decode cX6_handOver 88 = .ok (.iadd, 1) := by decide +kernel
theorem dX6_handOver_89 : decode cX6_handOver 89 = .ok (.putfield 261, 3) := by decide +kernel
theorem dX6_handOver_92 : decode cX6_handOver 92 = .ok (.aload_n 3, 1) := by decide +kernel
theorem dX6_handOver_93 : decode cX6_handOver 93 = .ok (.getfield 261, 3) := by decide +kernel
theorem dX6_handOver_96 : decode cX6_handOver 96 = .ok (.ireturn, 1) := by decide +kernel
theorem dX6_giveBack_0 : decode cX6_giveBack 0 = .ok (.aload_n 0, 1) := by decide +kernel
theorem dX6_giveBack_1 : decode cX6_giveBack 1 = .ok (.iload_n 1, 1) := by decide +kernel
theorem dX6_giveBack_2 : decode cX6_giveBack 2 = .ok (.invokevirtual 152, 3) := by decide +kernel
theorem dX6_giveBack_5 : decode cX6_giveBack 5 = .ok (.astore_n 2, 1) := by decide +kernel
theorem dX6_giveBack_6 : decode cX6_giveBack 6 = .ok (.aload_n 2, 1) := by decide +kernel
theorem dX6_giveBack_7 : decode cX6_giveBack 7 = .ok (.getfield 173, 3) := by decide +kernel
theorem dX6_giveBack_10 : decode cX6_giveBack 10 = .ok (.astore_n 3, 1) := by decide +kernel
theorem dX6_giveBack_11 : decode cX6_giveBack 11 = .ok (.aload_n 3, 1) := by decide +kernel
theorem dX6_giveBack_12 : decode cX6_giveBack 12 = .ok (.ifnonnull 13, 3) := by decide +kernel
theorem dX6_giveBack_15 : decode cX6_giveBack 15 = .ok (.new 118, 3) := by decide +kernel
theorem dX6_giveBack_18 : decode cX6_giveBack 18 = .ok (.dup, 1) := by decide +kernel
theorem dX6_giveBack_19 : decode cX6_giveBack 19 = .ok (.ldc 234, 2) := by decide +kernel
theorem dX6_giveBack_21 : decode cX6_giveBack 21 = .ok (.invokespecial 122, 3) := by decide +kernel
theorem dX6_giveBack_24 : decode cX6_giveBack 24 = .ok (.athrow, 1) := by decide +kernel
theorem dX6_giveBack_25 : decode cX6_giveBack 25 = .ok (.aload_n 2, 1) := by decide +kernel
theorem dX6_giveBack_26 : decode cX6_giveBack 26 = .ok (.invokevirtual 182, 3) := by decide +kernel
theorem dX6_giveBack_29 : decode cX6_giveBack 29 = .ok (.aload_n 0, 1) := by decide +kernel
theorem dX6_giveBack_30 : decode cX6_giveBack 30 = .ok (.aload_n 2, 1) := by decide +kernel
theorem dX6_giveBack_31 : decode cX6_giveBack 31 = .ok (.invokevirtual 138, 3) := by decide +kernel
theorem dX6_giveBack_34 : decode cX6_giveBack 34 = .ok (.aload_n 3, 1) := by decide +kernel
theorem dX6_giveBack_35 : decode cX6_giveBack 35 = .ok (.getfield 231, 3) := by decide +kernel
theorem dX6_giveBack_38 : decode cX6_giveBack 38 = .ok (.ireturn, 1) := by decide +kernel
theorem dX6_hold_0 : decode cX6_hold 0 = .ok (.aload_n 0, 1) := by decide +kernel
theorem dX6_hold_1 : decode cX6_hold 1 = .ok (.iload_n 1, 1) := by decide +kernel
theorem dX6_hold_2 : decode cX6_hold 2 = .ok (.invokevirtual 152, 3) := by decide +kernel
theorem dX6_hold_5 : decode cX6_hold 5 = .ok (.astore_n 2, 1) := by decide +kernel
theorem dX6_hold_6 : decode cX6_hold 6 = .ok (.aload_n 2, 1) := by decide +kernel
theorem dX6_hold_7 : decode cX6_hold 7 = .ok (.getfield 72, 3) := by decide +kernel
theorem dX6_hold_10 : decode cX6_hold 10 = .ok (.bipush 111, 2) := by decide +kernel
theorem dX6_hold_12 : decode cX6_hold 12 = .ok (.if_icmp .eq 14, 3) := by decide +kernel
theorem dX6_hold_15 : decode cX6_hold 15 = .ok (.new 118, 3) := by decide +kernel
theorem dX6_hold_18 : decode cX6_hold 18 = .ok (.dup, 1) := by decide +kernel
theorem dX6_hold_19 : decode cX6_hold 19 = .ok (.ldc_w 264, 3) := by decide +kernel
theorem dX6_hold_22 : decode cX6_hold 22 = .ok (.invokespecial 122, 3) := by decide +kernel
theorem dX6_hold_25 : decode cX6_hold 25 = .ok (.athrow, 1) := by decide +kernel
theorem dX6_hold_26 : decode cX6_hold 26 = .ok (.aload_n 0, 1) := by decide +kernel
theorem dX6_hold_27 : decode cX6_hold 27 = .ok (.aload_n 2, 1) := by decide +kernel
theorem dX6_hold_28 : decode cX6_hold 28 = .ok (.invokevirtual 130, 3) := by decide +kernel
theorem dX6_hold_31 : decode cX6_hold 31 = .ok (.aload_n 2, 1) := by decide +kernel
theorem dX6_hold_32 : decode cX6_hold 32 = .ok (.bipush 104, 2) := by decide +kernel
theorem dX6_hold_34 : decode cX6_hold 34 = .ok (.putfield 72, 3) := by decide +kernel
theorem dX6_hold_37 : decode cX6_hold 37 = .ok (.aload_n 2, 1) := by decide +kernel
theorem dX6_hold_38 : decode cX6_hold 38 = .ok (.getfield 185, 3) := by decide +kernel
theorem dX6_hold_41 : decode cX6_hold 41 = .ok (.ireturn, 1) := by decide +kernel
theorem dX6_resume_0 : decode cX6_resume 0 = .ok (.aload_n 0, 1) := by decide +kernel
theorem dX6_resume_1 : decode cX6_resume 1 = .ok (.iload_n 1, 1) := by decide +kernel
theorem dX6_resume_2 : decode cX6_resume 2 = .ok (.invokevirtual 152, 3) := by decide +kernel
theorem dX6_resume_5 : decode cX6_resume 5 = .ok (.astore_n 2, 1) := by decide +kernel
theorem dX6_resume_6 : decode cX6_resume 6 = .ok (.aload_n 2, 1) := by decide +kernel
theorem dX6_resume_7 : decode cX6_resume 7 = .ok (.getfield 72, 3) := by decide +kernel
theorem dX6_resume_10 : decode cX6_resume 10 = .ok (.bipush 104, 2) := by decide +kernel
theorem dX6_resume_12 : decode cX6_resume 12 = .ok (.if_icmp .eq 14, 3) := by decide +kernel
theorem dX6_resume_15 : decode cX6_resume 15 = .ok (.new 118, 3) := by decide +kernel
theorem dX6_resume_18 : decode cX6_resume 18 = .ok (.dup, 1) := by decide +kernel
theorem dX6_resume_19 : decode cX6_resume 19 = .ok (.ldc_w 266, 3) := by decide +kernel
theorem dX6_resume_22 : decode cX6_resume 22 = .ok (.invokespecial 122, 3) := by decide +kernel
theorem dX6_resume_25 : decode cX6_resume 25 = .ok (.athrow, 1) := by decide +kernel
theorem dX6_resume_26 : decode cX6_resume 26 = .ok (.aload_n 2, 1) := by decide +kernel
theorem dX6_resume_27 : decode cX6_resume 27 = .ok (.bipush 111, 2) := by decide +kernel
theorem dX6_resume_29 : decode cX6_resume 29 = .ok (.putfield 72, 3) := by decide +kernel
theorem dX6_resume_32 : decode cX6_resume 32 = .ok (.aload_n 0, 1) := by decide +kernel
theorem dX6_resume_33 : decode cX6_resume 33 = .ok (.aload_n 2, 1) := by decide +kernel
theorem dX6_resume_34 : decode cX6_resume 34 = .ok (.invokevirtual 138, 3) := by decide +kernel
theorem dX6_resume_37 : decode cX6_resume 37 = .ok (.aload_n 2, 1) := by decide +kernel
theorem dX6_resume_38 : decode cX6_resume 38 = .ok (.getfield 185, 3) := by decide +kernel
theorem dX6_resume_41 : decode cX6_resume 41 = .ok (.ireturn, 1) := by decide +kernel
theorem dX6_answer_0 : decode cX6_answer 0 = .ok (.aload_n 0, 1) := by decide +kernel
theorem dX6_answer_1 : decode cX6_answer 1 = .ok (.iload_n 1, 1) := by decide +kernel
theorem dX6_answer_2 : decode cX6_answer 2 = .ok (.invokevirtual 152, 3) := by decide +kernel
theorem dX6_answer_5 : decode cX6_answer 5 = .ok (.astore_n 3, 1) := by decide +kernel
theorem dX6_answer_6 : decode cX6_answer 6 = .ok (.aload_n 3, 1) := by decide +kernel
theorem dX6_answer_7 : decode cX6_answer 7 = .ok (.getfield 72, 3) := by decide +kernel
theorem dX6_answer_10 : decode cX6_answer 10 = .ok (.bipush 111, 2) := by decide +kernel
theorem dX6_answer_12 : decode cX6_answer 12 = .ok (.if_icmp .ne 10, 3) := by decide +kernel
theorem dX6_answer_15 : decode cX6_answer 15 = .ok (.aload_n 3, 1) := by decide +kernel
theorem dX6_answer_16 : decode cX6_answer 16 = .ok (.getfield 173, 3) := by decide +kernel
theorem dX6_answer_19 : decode cX6_answer 19 = .ok (.ifnonnull 14, 3) := by decide +kernel
theorem dX6_answer_22 : decode cX6_answer 22 = .ok (.new 118, 3) := by decide +kernel
theorem dX6_answer_25 : decode cX6_answer 25 = .ok (.dup, 1) := by decide +kernel
theorem dX6_answer_26 : decode cX6_answer 26 = .ok (.ldc_w 268, 3) := by decide +kernel
theorem dX6_answer_29 : decode cX6_answer 29 = .ok (.invokespecial 122, 3) := by decide +kernel
theorem dX6_answer_32 : decode cX6_answer 32 = .ok (.athrow, 1) := by decide +kernel
theorem dX6_answer_33 : decode cX6_answer 33 = .ok (.iload_n 2, 1) := by decide +kernel
theorem dX6_answer_34 : decode cX6_answer 34 = .ok (.iconst (-1), 1) := by decide +kernel
theorem dX6_answer_35 : decode cX6_answer 35 = .ok (.if_icmp .eq 22, 3) := by decide +kernel
theorem dX6_answer_38 : decode cX6_answer 38 = .ok (.aload_n 0, 1) := by decide +kernel
theorem dX6_answer_39 : decode cX6_answer 39 = .ok (.iload_n 2, 1) := by decide +kernel
theorem dX6_answer_40 : decode cX6_answer 40 = .ok (.invokevirtual 270, 3) := by decide +kernel
theorem dX6_answer_43 : decode cX6_answer 43 = .ok (.ifCond .ne 14, 3) := by decide +kernel
theorem dX6_answer_46 : decode cX6_answer 46 = .ok (.new 109, 3) := by decide +kernel
theorem dX6_answer_49 : decode cX6_answer 49 = .ok (.dup, 1) := by decide +kernel
theorem dX6_answer_50 : decode cX6_answer 50 = .ok (.ldc_w 273, 3) := by decide +kernel
theorem dX6_answer_53 : decode cX6_answer 53 = .ok (.invokespecial 113, 3) := by decide +kernel
theorem dX6_answer_56 : decode cX6_answer 56 = .ok (.athrow, 1) := by decide +kernel
theorem dX6_answer_57 : decode cX6_answer 57 = .ok (.aload_n 3, 1) := by decide +kernel
theorem dX6_answer_58 : decode cX6_answer 58 = .ok (.invokevirtual 182, 3) := by decide +kernel
theorem dX6_answer_61 : decode cX6_answer 61 = .ok (.aload_n 3, 1) := by decide +kernel
theorem dX6_answer_62 : decode cX6_answer 62 = .ok (.bipush 97, 2) := by decide +kernel
theorem dX6_answer_64 : decode cX6_answer 64 = .ok (.putfield 72, 3) := by decide +kernel
theorem dX6_answer_67 : decode cX6_answer 67 = .ok (.aload_n 3, 1) := by decide +kernel
theorem dX6_answer_68 : decode cX6_answer 68 = .ok (.iload_n 2, 1) := by decide +kernel
theorem dX6_answer_69 : decode cX6_answer 69 = .ok (.iconst (-1), 1) := by decide +kernel
theorem dX6_answer_70 : decode cX6_answer 70 = .ok (.if_icmp .ne 7, 3) := by decide +kernel
theorem dX6_answer_73 : decode cX6_answer 73 = .ok (.aconst_null, 1) := by decide +kernel
theorem dX6_answer_74 : decode cX6_answer 74 = .ok (.goto 14, 3) := by decide +kernel
theorem dX6_answer_77 : decode cX6_answer 77 = .ok (.aload_n 0, 1) := by decide +kernel
theorem dX6_answer_78 : decode cX6_answer 78 = .ok (.getfield 42, 3) := by decide +kernel
theorem dX6_answer_81 : decode cX6_answer 81 = .ok (.iload_n 2, 1) := by decide +kernel
theorem dX6_answer_82 : decode cX6_answer 82 = .ok (.invokevirtual 66, 3) := by decide +kernel
theorem dX6_answer_85 : decode cX6_answer 85 = .ok (.checkcast 275, 3) := by decide +kernel
theorem dX6_answer_88 : decode cX6_answer 88 = .ok (.putfield 277, 3) := by decide +kernel
theorem dX6_answer_91 : decode cX6_answer 91 = .ok (.aload_n 0, 1) := by decide +kernel
theorem dX6_answer_92 : decode cX6_answer 92 = .ok (.aload_n 3, 1) := by decide +kernel
theorem dX6_answer_93 : decode cX6_answer 93 = .ok (.invokevirtual 281, 3) := by decide +kernel
theorem dX6_answer_96 : decode cX6_answer 96 = .ok (.aload_n 3, 1) := by decide +kernel
theorem dX6_answer_97 : decode cX6_answer 97 = .ok (.getfield 185, 3) := by decide +kernel
theorem dX6_answer_100 : decode cX6_answer 100 = .ok (.ireturn, 1) := by decide +kernel
theorem dX6_close_0 : decode cX6_close 0 = .ok (.aload_n 0, 1) := by decide +kernel
theorem dX6_close_1 : decode cX6_close 1 = .ok (.iload_n 1, 1) := by decide +kernel
theorem dX6_close_2 : decode cX6_close 2 = .ok (.invokevirtual 152, 3) := by decide +kernel
theorem dX6_close_5 : decode cX6_close 5 = .ok (.astore_n 2, 1) := by decide +kernel
theorem dX6_close_6 : decode cX6_close 6 = .ok (.aload_n 2, 1) := by decide +kernel
theorem dX6_close_7 : decode cX6_close 7 = .ok (.getfield 72, 3) := by decide +kernel
theorem dX6_close_10 : decode cX6_close 10 = .ok (.bipush 97, 2) := by decide +kernel
theorem dX6_close_12 : decode cX6_close 12 = .ok (.if_icmp .eq 14, 3) := by decide +kernel
theorem dX6_close_15 : decode cX6_close 15 = .ok (.new 118, 3) := by decide +kernel
theorem dX6_close_18 : decode cX6_close 18 = .ok (.dup, 1) := by decide +kernel
theorem dX6_close_19 : decode cX6_close 19 = .ok (.ldc_w 284, 3) := by decide +kernel
theorem dX6_close_22 : decode cX6_close 22 = .ok (.invokespecial 122, 3) := by decide +kernel
theorem dX6_close_25 : decode cX6_close 25 = .ok (.athrow, 1) := by decide +kernel
theorem dX6_close_26 : decode cX6_close 26 = .ok (.aload_n 2, 1) := by decide +kernel
theorem dX6_close_27 : decode cX6_close 27 = .ok (.getfield 277, 3) := by decide +kernel
theorem dX6_close_30 : decode cX6_close 30 = .ok (.ifnull 14, 3) := by decide +kernel
theorem dX6_close_33 : decode cX6_close 33 = .ok (.aload_n 2, 1) := by decide +kernel
theorem dX6_close_34 : decode cX6_close 34 = .ok (.getfield 277, 3) := by decide +kernel
theorem dX6_close_37 : decode cX6_close 37 = .ok (.aload_n 2, 1) := by decide +kernel
theorem dX6_close_38 : decode cX6_close 38 = .ok (.getfield 170, 3) := by decide +kernel
theorem dX6_close_41 : decode cX6_close 41 = .ok (.invokevirtual 286, 3) := by decide +kernel
theorem dX6_close_44 : decode cX6_close 44 = .ok (.aload_n 2, 1) := by decide +kernel
theorem dX6_close_45 : decode cX6_close 45 = .ok (.aconst_null, 1) := by decide +kernel
theorem dX6_close_46 : decode cX6_close 46 = .ok (.putfield 277, 3) := by decide +kernel
theorem dX6_close_49 : decode cX6_close 49 = .ok (.aload_n 2, 1) := by decide +kernel
theorem dX6_close_50 : decode cX6_close 50 = .ok (.bipush 99, 2) := by decide +kernel
theorem dX6_close_52 : decode cX6_close 52 = .ok (.putfield 72, 3) := by decide +kernel
theorem dX6_close_55 : decode cX6_close 55 = .ok (.aload_n 2, 1) := by decide +kernel
theorem dX6_close_56 : decode cX6_close 56 = .ok (.aload_n 0, 1) := by decide +kernel
theorem dX6_close_57 : decode cX6_close 57 = .ok (.getfield 84, 3) := by decide +kernel
theorem dX6_close_60 : decode cX6_close 60 = .ok (.putfield 290, 3) := by decide +kernel
theorem dX6_close_63 : decode cX6_close 63 = .ok (.aload_n 0, 1) := by decide +kernel
theorem dX6_close_64 : decode cX6_close 64 = .ok (.invokevirtual 293, 3) := by decide +kernel
theorem dX6_close_67 : decode cX6_close 67 = .ok (.ireturn, 1) := by decide +kernel
theorem dX6_merge_0 : decode cX6_merge 0 = .ok (.aload_n 0, 1) := by decide +kernel
theorem dX6_merge_1 : decode cX6_merge 1 = .ok (.iload_n 1, 1) := by decide +kernel
theorem dX6_merge_2 : decode cX6_merge 2 = .ok (.invokevirtual 152, 3) := by decide +kernel
theorem dX6_merge_5 : decode cX6_merge 5 = .ok (.astore_n 3, 1) := by decide +kernel
theorem dX6_merge_6 : decode cX6_merge 6 = .ok (.aload_n 0, 1) := by decide +kernel
theorem dX6_merge_7 : decode cX6_merge 7 = .ok (.iload_n 2, 1) := by decide +kernel
theorem dX6_merge_8 : decode cX6_merge 8 = .ok (.invokevirtual 152, 3) := by decide +kernel
theorem dX6_merge_11 : decode cX6_merge 11 = .ok (.astore 4, 2) := by decide +kernel
theorem dX6_merge_13 : decode cX6_merge 13 = .ok (.aload_n 3, 1) := by decide +kernel
theorem dX6_merge_14 : decode cX6_merge 14 = .ok (.aload 4, 2) := by decide +kernel
theorem dX6_merge_16 : decode cX6_merge 16 = .ok (.if_acmp .ne 14, 3) := by decide +kernel
theorem dX6_merge_19 : decode cX6_merge 19 = .ok (.new 55, 3) := by decide +kernel
theorem dX6_merge_22 : decode cX6_merge 22 = .ok (.dup, 1) := by decide +kernel
theorem dX6_merge_23 : decode cX6_merge 23 = .ok (.ldc_w 296, 3) := by decide +kernel
theorem dX6_merge_26 : decode cX6_merge 26 = .ok (.invokespecial 59, 3) := by decide +kernel
theorem dX6_merge_29 : decode cX6_merge 29 = .ok (.athrow, 1) := by decide +kernel
theorem dX6_merge_30 : decode cX6_merge 30 = .ok (.aload_n 3, 1) := by decide +kernel
theorem dX6_merge_31 : decode cX6_merge 31 = .ok (.invokestatic 167, 3) := by decide +kernel
theorem dX6_merge_34 : decode cX6_merge 34 = .ok (.aload 4, 2) := by decide +kernel
theorem dX6_merge_36 : decode cX6_merge 36 = .ok (.invokestatic 167, 3) := by decide +kernel
theorem dX6_merge_39 : decode cX6_merge 39 = .ok (.aload_n 3, 1) := by decide +kernel
theorem dX6_merge_40 : decode cX6_merge 40 = .ok (.getfield 298, 3) := by decide +kernel
theorem dX6_merge_43 : decode cX6_merge 43 = .ok (.aload 4, 2) := by decide +kernel
theorem dX6_merge_45 : decode cX6_merge 45 = .ok (.getfield 298, 3) := by decide +kernel
theorem dX6_merge_48 : decode cX6_merge 48 = .ok (.if_acmp .eq 14, 3) := by decide +kernel
theorem dX6_merge_51 : decode cX6_merge 51 = .ok (.new 210, 3) := by decide +kernel
theorem dX6_merge_54 : decode cX6_merge 54 = .ok (.dup, 1) := by decide +kernel
theorem dX6_merge_55 : decode cX6_merge 55 = .ok (.ldc_w 302, 3) := by decide +kernel
theorem dX6_merge_58 : decode cX6_merge 58 = .ok (.invokespecial 214, 3) := by decide +kernel
theorem dX6_merge_61 : decode cX6_merge 61 = .ok (.athrow, 1) := by decide +kernel
theorem dX6_merge_62 : decode cX6_merge 62 = .ok (.aload_n 0, 1) := by decide +kernel
theorem dX6_merge_63 : decode cX6_merge 63 = .ok (.aload_n 3, 1) := by decide +kernel
theorem dX6_merge_64 : decode cX6_merge 64 = .ok (.invokevirtual 130, 3) := by decide +kernel
theorem dX6_merge_67 : decode cX6_merge 67 = .ok (.aload_n 0, 1) := by decide +kernel
theorem dX6_merge_68 : decode cX6_merge 68 = .ok (.aload 4, 2) := by decide +kernel
theorem dX6_merge_70 : decode cX6_merge 70 = .ok (.invokevirtual 130, 3) := by decide +kernel
theorem dX6_merge_73 : decode cX6_merge 73 = .ok (.aload_n 3, 1) := by decide +kernel
theorem dX6_merge_74 : decode cX6_merge 74 = .ok (.invokevirtual 182, 3) := by decide +kernel
theorem dX6_merge_77 : decode cX6_merge 77 = .ok (.aload 4, 2) := by decide +kernel
theorem dX6_merge_79 : decode cX6_merge 79 = .ok (.aload_n 3, 1) := by decide +kernel
theorem dX6_merge_80 : decode cX6_merge 80 = .ok (.invokevirtual 304, 3) := by decide +kernel
theorem dX6_merge_83 : decode cX6_merge 83 = .ok (.aload_n 0, 1) := by decide +kernel
theorem dX6_merge_84 : decode cX6_merge 84 = .ok (.aload 4, 2) := by decide +kernel
theorem dX6_merge_86 : decode cX6_merge 86 = .ok (.invokevirtual 138, 3) := by decide +kernel
theorem dX6_merge_89 : decode cX6_merge 89 = .ok (.aload 4, 2) := by decide +kernel
theorem dX6_merge_91 : decode cX6_merge 91 = .ok (.getfield 156, 3) := by decide +kernel
theorem dX6_merge_94 : decode cX6_merge 94 = .ok (.invokevirtual 62, 3) := by decide +kernel
theorem dX6_merge_97 : decode cX6_merge 97 = .ok (.ireturn, 1) := by decide +kernel
theorem dX6_addAnswer_0 : decode cX6_addAnswer 0 = .ok (.iload_n 1, 1) := by decide +kernel
theorem dX6_addAnswer_1 : decode cX6_addAnswer 1 = .ok (.invokestatic 104, 3) := by decide +kernel
theorem dX6_addAnswer_4 : decode cX6_addAnswer 4 = .ok (.ifCond .ne 14, 3) := by decide +kernel
theorem dX6_addAnswer_7 : decode cX6_addAnswer 7 = .ok (.new 55, 3) := by decide +kernel
theorem dX6_addAnswer_10 : decode cX6_addAnswer 10 = .ok (.dup, 1) := by decide +kernel
theorem dX6_addAnswer_11 : decode cX6_addAnswer 11 = .ok (.ldc_w 307, 3) := by decide +kernel
theorem dX6_addAnswer_14 : decode cX6_addAnswer 14 = .ok (.invokespecial 59, 3) := by decide +kernel
theorem dX6_addAnswer_17 : decode cX6_addAnswer 17 = .ok (.athrow, 1) := by decide +kernel
theorem dX6_addAnswer_18 : decode cX6_addAnswer 18 = .ok (.aload_n 0, 1) := by decide +kernel
theorem dX6_addAnswer_19 : decode cX6_addAnswer 19 = .ok (.getfield 42, 3) := by decide +kernel
theorem dX6_addAnswer_22 : decode cX6_addAnswer 22 = .ok (.invokevirtual 62, 3) := by decide +kernel
theorem dX6_addAnswer_25 : decode cX6_addAnswer 25 = .ok (.bipush 8, 2) := by decide +kernel
theorem dX6_addAnswer_27 : decode cX6_addAnswer 27 = .ok (.if_icmp .lt 14, 3) := by decide +kernel
theorem dX6_addAnswer_30 : decode cX6_addAnswer 30 = .ok (.new 118, 3) := by decide +kernel
theorem dX6_addAnswer_33 : decode cX6_addAnswer 33 = .ok (.dup, 1) := by decide +kernel
theorem dX6_addAnswer_34 : decode cX6_addAnswer 34 = .ok (.ldc_w 309, 3) := by decide +kernel
theorem dX6_addAnswer_37 : decode cX6_addAnswer 37 = .ok (.invokespecial 122, 3) := by decide +kernel
theorem dX6_addAnswer_40 : decode cX6_addAnswer 40 = .ok (.athrow, 1) := by decide +kernel
theorem dX6_addAnswer_41 : decode cX6_addAnswer 41 = .ok (.aload_n 0, 1) := by decide +kernel
theorem dX6_addAnswer_42 : decode cX6_addAnswer 42 = .ok (.getfield 42, 3) := by decide +kernel
theorem dX6_addAnswer_45 : decode cX6_addAnswer 45 = .ok (.invokevirtual 62, 3) := by decide +kernel
theorem dX6_addAnswer_48 : decode cX6_addAnswer 48 = .ok (.istore_n 2, 1) := by decide +kernel
theorem dX6_addAnswer_49 : decode cX6_addAnswer 49 = .ok (.aload_n 0, 1) := by decide +kernel
theorem dX6_addAnswer_50 : decode cX6_addAnswer 50 = .ok (.getfield 42, 3) := by decide +kernel
theorem dX6_addAnswer_53 : decode cX6_addAnswer 53 = .ok (.new 275, 3) := by decide +kernel
theorem dX6_addAnswer_56 : decode cX6_addAnswer 56 = .ok (.dup, 1) := by decide +kernel
theorem dX6_addAnswer_57 : decode cX6_addAnswer 57 = .ok (.iload_n 1, 1) := by decide +kernel
theorem dX6_addAnswer_58 : decode cX6_addAnswer 58 = .ok (.invokespecial 311, 3) := by decide +kernel
theorem dX6_addAnswer_61 : decode cX6_addAnswer 61 = .ok (.invokevirtual 126, 3) := by decide +kernel
theorem dX6_addAnswer_64 : decode cX6_addAnswer 64 = .ok (.pop, 1) := by decide +kernel
theorem dX6_addAnswer_65 : decode cX6_addAnswer 65 = .ok (.iconst 0, 1) := by decide +kernel
theorem dX6_addAnswer_66 : decode cX6_addAnswer 66 = .ok (.istore_n 3, 1) := by decide +kernel
theorem dX6_addAnswer_67 : decode cX6_addAnswer 67 = .ok (.iload_n 3, 1) := by decide +kernel
theorem dX6_addAnswer_68 : decode cX6_addAnswer 68 = .ok (.bipush 10, 2) := by decide +kernel
theorem dX6_addAnswer_70 : decode cX6_addAnswer 70 = .ok (.if_icmp .ge 30, 3) := by decide +kernel
theorem dX6_addAnswer_73 : decode cX6_addAnswer 73 = .ok (.iload_n 1, 1) := by decide +kernel
theorem dX6_addAnswer_74 : decode cX6_addAnswer 74 = .ok (.iload_n 3, 1) := by decide +kernel
theorem dX6_addAnswer_75 : decode cX6_addAnswer 75 = .ok (.ishr, 1) := by decide +kernel
theorem dX6_addAnswer_76 : decode cX6_addAnswer 76 = .ok (.iconst 1, 1) := by decide +kernel
theorem dX6_addAnswer_77 : decode cX6_addAnswer 77 = .ok (.iand, 1) := by decide +kernel
theorem dX6_addAnswer_78 : decode cX6_addAnswer 78 = .ok (.iconst 1, 1) := by decide +kernel
theorem dX6_addAnswer_79 : decode cX6_addAnswer 79 = .ok (.if_icmp .ne 15, 3) := by decide +kernel
theorem dX6_addAnswer_82 : decode cX6_addAnswer 82 = .ok (.aload_n 0, 1) := by decide +kernel
theorem dX6_addAnswer_83 : decode cX6_addAnswer 83 = .ok (.getfield 45, 3) := by decide +kernel
theorem dX6_addAnswer_86 : decode cX6_addAnswer 86 = .ok (.iload_n 3, 1) := by decide +kernel
theorem dX6_addAnswer_87 : decode cX6_addAnswer 87 = .ok (.dup2, 1) := by decide +kernel
theorem dX6_addAnswer_88 : decode cX6_addAnswer 88 = .ok (.iaload, 1) := by decide +kernel
theorem dX6_addAnswer_89 : decode cX6_addAnswer 89 = .ok (.iconst 1, 1) := by decide +kernel
theorem dX6_addAnswer_90 : decode cX6_addAnswer 90 = .ok (.iload_n 2, 1) := by decide +kernel
theorem dX6_addAnswer_91 : decode cX6_addAnswer 91 = .ok (.ishl, 1) := by decide +kernel
theorem dX6_addAnswer_92 : decode cX6_addAnswer 92 = .ok (.ior, 1) := by decide +kernel
theorem dX6_addAnswer_93 : decode cX6_addAnswer 93 = .ok (.iastore, 1) := by decide +kernel
theorem dX6_addAnswer_94 : decode cX6_addAnswer 94 = .ok (.iinc 3 1, 3) := by decide +kernel
theorem dX6_addAnswer_97 : decode cX6_addAnswer 97 = .ok (.goto (-30), 3) := by decide +kernel
theorem dX6_addAnswer_100 : decode cX6_addAnswer 100 = .ok (.iload_n 2, 1) := by decide +kernel
theorem dX6_addAnswer_101 : decode cX6_addAnswer 101 = .ok (.ireturn, 1) := by decide +kernel
theorem dX6_weight_0 : decode cX6_weight 0 = .ok (.aload_n 0, 1) := by decide +kernel
theorem dX6_weight_1 : decode cX6_weight 1 = .ok (.iload_n 1, 1) := by decide +kernel
theorem dX6_weight_2 : decode cX6_weight 2 = .ok (.invokevirtual 270, 3) := by decide +kernel
theorem dX6_weight_5 : decode cX6_weight 5 = .ok (.ifCond .ne 14, 3) := by decide +kernel
theorem dX6_weight_8 : decode cX6_weight 8 = .ok (.new 109, 3) := by decide +kernel
theorem dX6_weight_11 : decode cX6_weight 11 = .ok (.dup, 1) := by decide +kernel
theorem dX6_weight_12 : decode cX6_weight 12 = .ok (.ldc_w 273, 3) := by decide +kernel
theorem dX6_weight_15 : decode cX6_weight 15 = .ok (.invokespecial 113, 3) := by decide +kernel
theorem dX6_weight_18 : decode cX6_weight 18 = .ok (.athrow, 1) := by decide +kernel
theorem dX6_weight_19 : decode cX6_weight 19 = .ok (.iload_n 2, 1) := by decide +kernel
theorem dX6_weight_20 : decode cX6_weight 20 = .ok (.invokestatic 101, 3) := by decide +kernel
theorem dX6_weight_23 : decode cX6_weight 23 = .ok (.ifCond .ne 13, 3) := by decide +kernel
theorem dX6_weight_26 : decode cX6_weight 26 = .ok (.new 55, 3) := by decide +kernel
theorem dX6_weight_29 : decode cX6_weight 29 = .ok (.dup, 1) := by decide +kernel
theorem dX6_weight_30 : decode cX6_weight 30 = .ok (.ldc 165, 2) := by decide +kernel
theorem dX6_weight_32 : decode cX6_weight 32 = .ok (.invokespecial 59, 3) := by decide +kernel
theorem dX6_weight_35 : decode cX6_weight 35 = .ok (.athrow, 1) := by decide +kernel
theorem dX6_weight_36 : decode cX6_weight 36 = .ok (.aload_n 0, 1) := by decide +kernel
theorem dX6_weight_37 : decode cX6_weight 37 = .ok (.getfield 42, 3) := by decide +kernel
theorem dX6_weight_40 : decode cX6_weight 40 = .ok (.iload_n 1, 1) := by decide +kernel
theorem dX6_weight_41 : decode cX6_weight 41 = .ok (.invokevirtual 66, 3) := by decide +kernel
theorem dX6_weight_44 : decode cX6_weight 44 = .ok (.checkcast 275, 3) := by decide +kernel
theorem dX6_weight_47 : decode cX6_weight 47 = .ok (.getfield 313, 3) := by decide +kernel
theorem dX6_weight_50 : decode cX6_weight 50 = .ok (.iload_n 2, 1) := by decide +kernel
theorem dX6_weight_51 : decode cX6_weight 51 = .ok (.iaload, 1) := by decide +kernel
theorem dX6_weight_52 : decode cX6_weight 52 = .ok (.ireturn, 1) := by decide +kernel
theorem dX6_suggestion_0 : decode cX6_suggestion 0 = .ok (.aload_n 0, 1) := by decide +kernel
theorem dX6_suggestion_1 : decode cX6_suggestion 1 = .ok (.aload_n 0, 1) := by decide +kernel
theorem dX6_suggestion_2 : decode cX6_suggestion 2 = .ok (.iload_n 1, 1) := by decide +kernel
theorem dX6_suggestion_3 : decode cX6_suggestion 3 = .ok (.invokevirtual 152, 3) := by decide +kernel
theorem dX6_suggestion_6 : decode cX6_suggestion 6 = .ok (.invokevirtual 316, 3) := by decide +kernel
theorem dX6_suggestion_9 : decode cX6_suggestion 9 = .ok (.istore_n 2, 1) := by decide +kernel
theorem dX6_suggestion_10 : decode cX6_suggestion 10 = .ok (.iload_n 2, 1) := by decide +kernel
theorem dX6_suggestion_11 : decode cX6_suggestion 11 = .ok (.iconst (-1), 1) := by decide +kernel
theorem dX6_suggestion_12 : decode cX6_suggestion 12 = .ok (.if_icmp .ne 14, 3) := by decide +kernel
theorem dX6_suggestion_15 : decode cX6_suggestion 15 = .ok (.new 109, 3) := by decide +kernel
theorem dX6_suggestion_18 : decode cX6_suggestion 18 = .ok (.dup, 1) := by decide +kernel
theorem dX6_suggestion_19 : decode cX6_suggestion 19 = .ok (.ldc_w 320, 3) := by decide +kernel
theorem dX6_suggestion_22 : decode cX6_suggestion 22 = .ok (.invokespecial 113, 3) := by decide +kernel
theorem dX6_suggestion_25 : decode cX6_suggestion 25 = .ok (.athrow, 1) := by decide +kernel
theorem dX6_suggestion_26 : decode cX6_suggestion 26 = .ok (.iload_n 2, 1) := by decide +kernel
theorem dX6_suggestion_27 : decode cX6_suggestion 27 = .ok (.ireturn, 1) := by decide +kernel
theorem dX6_suggestionByWords_0 : decode cX6_suggestionByWords 0 = .ok (.aload_n 0, 1) := by decide +kernel
theorem dX6_suggestionByWords_1 : decode cX6_suggestionByWords 1 = .ok (.aload_n 0, 1) := by decide +kernel
theorem dX6_suggestionByWords_2 : decode cX6_suggestionByWords 2 = .ok (.iload_n 1, 1) := by decide +kernel
theorem dX6_suggestionByWords_3 : decode cX6_suggestionByWords 3 = .ok (.invokevirtual 152, 3) := by decide +kernel
theorem dX6_suggestionByWords_6 : decode cX6_suggestionByWords 6 = .ok (.invokevirtual 322, 3) := by decide +kernel
theorem dX6_suggestionByWords_9 : decode cX6_suggestionByWords 9 = .ok (.istore_n 2, 1) := by decide +kernel
theorem dX6_suggestionByWords_10 : decode cX6_suggestionByWords 10 = .ok (.iload_n 2, 1) := by decide +kernel
theorem dX6_suggestionByWords_11 : decode cX6_suggestionByWords 11 = .ok (.iconst (-1), 1) := by decide +kernel
theorem dX6_suggestionByWords_12 : decode cX6_suggestionByWords 12 = .ok (.if_icmp .ne 14, 3) := by decide +kernel
theorem dX6_suggestionByWords_15 : decode cX6_suggestionByWords 15 = .ok (.new 109, 3) := by decide +kernel
theorem dX6_suggestionByWords_18 : decode cX6_suggestionByWords 18 = .ok (.dup, 1) := by decide +kernel
theorem dX6_suggestionByWords_19 : decode cX6_suggestionByWords 19 = .ok (.ldc_w 320, 3) := by decide +kernel
theorem dX6_suggestionByWords_22 : decode cX6_suggestionByWords 22 = .ok (.invokespecial 113, 3) := by decide +kernel
theorem dX6_suggestionByWords_25 : decode cX6_suggestionByWords 25 = .ok (.athrow, 1) := by decide +kernel
theorem dX6_suggestionByWords_26 : decode cX6_suggestionByWords 26 = .ok (.iload_n 2, 1) := by decide +kernel
theorem dX6_suggestionByWords_27 : decode cX6_suggestionByWords 27 = .ok (.ireturn, 1) := by decide +kernel
theorem dX6_breaches_0 : decode cX6_breaches 0 = .ok (.aload_n 0, 1) := by decide +kernel
theorem dX6_breaches_1 : decode cX6_breaches 1 = .ok (.getfield 88, 3) := by decide +kernel
theorem dX6_breaches_4 : decode cX6_breaches 4 = .ok (.ireturn, 1) := by decide +kernel
theorem dX6_answers_0 : decode cX6_answers 0 = .ok (.aload_n 0, 1) := by decide +kernel
theorem dX6_answers_1 : decode cX6_answers 1 = .ok (.getfield 325, 3) := by decide +kernel
theorem dX6_answers_4 : decode cX6_answers 4 = .ok (.ireturn, 1) := by decide +kernel
theorem dX6_minutesOpen_0 : decode cX6_minutesOpen 0 = .ok (.aload_n 0, 1) := by decide +kernel
theorem dX6_minutesOpen_1 : decode cX6_minutesOpen 1 = .ok (.getfield 76, 3) := by decide +kernel
theorem dX6_minutesOpen_4 : decode cX6_minutesOpen 4 = .ok (.lreturn, 1) := by decide +kernel
theorem dX6_keptShare_0 : decode cX6_keptShare 0 = .ok (.aload_n 0, 1) := by decide +kernel
theorem dX6_keptShare_1 : decode cX6_keptShare 1 = .ok (.getfield 325, 3) := by decide +kernel
theorem dX6_keptShare_4 : decode cX6_keptShare 4 = .ok (.ifCond .ne 14, 3) := by decide +kernel
theorem dX6_keptShare_7 : decode cX6_keptShare 7 = .ok (.new 328, 3) := by decide +kernel
theorem dX6_keptShare_10 : decode cX6_keptShare 10 = .ok (.dup, 1) := by decide +kernel
theorem dX6_keptShare_11 : decode cX6_keptShare 11 = .ok (.ldc_w 330, 3) := by decide +kernel
theorem dX6_keptShare_14 : decode cX6_keptShare 14 = .ok (.invokespecial 332, 3) := by decide +kernel
theorem dX6_keptShare_17 : decode cX6_keptShare 17 = .ok (.athrow, 1) := by decide +kernel
theorem dX6_keptShare_18 : decode cX6_keptShare 18 = .ok (.aload_n 0, 1) := by decide +kernel
theorem dX6_keptShare_19 : decode cX6_keptShare 19 = .ok (.getfield 333, 3) := by decide +kernel
theorem dX6_keptShare_22 : decode cX6_keptShare 22 = .ok (.i2f, 1) := by decide +kernel
theorem dX6_keptShare_23 : decode cX6_keptShare 23 = .ok (.aload_n 0, 1) := by decide +kernel
theorem dX6_keptShare_24 : decode cX6_keptShare 24 = .ok (.getfield 325, 3) := by decide +kernel
theorem dX6_keptShare_27 : decode cX6_keptShare 27 = .ok (.i2f, 1) := by decide +kernel
theorem dX6_keptShare_28 : decode cX6_keptShare 28 = .ok (.fdiv, 1) := by decide +kernel
theorem dX6_keptShare_29 : decode cX6_keptShare 29 = .ok (.freturn, 1) := by decide +kernel
theorem dX6_meanClock_0 : decode cX6_meanClock 0 = .ok (.aload_n 0, 1) := by decide +kernel
theorem dX6_meanClock_1 : decode cX6_meanClock 1 = .ok (.getfield 325, 3) := by decide +kernel
theorem dX6_meanClock_4 : decode cX6_meanClock 4 = .ok (.ifCond .ne 14, 3) := by decide +kernel
theorem dX6_meanClock_7 : decode cX6_meanClock 7 = .ok (.new 328, 3) := by decide +kernel
theorem dX6_meanClock_10 : decode cX6_meanClock 10 = .ok (.dup, 1) := by decide +kernel
theorem dX6_meanClock_11 : decode cX6_meanClock 11 = .ok (.ldc_w 330, 3) := by decide +kernel
theorem dX6_meanClock_14 : decode cX6_meanClock 14 = .ok (.invokespecial 332, 3) := by decide +kernel
theorem dX6_meanClock_17 : decode cX6_meanClock 17 = .ok (.athrow, 1) := by decide +kernel
theorem dX6_meanClock_18 : decode cX6_meanClock 18 = .ok (.aload_n 0, 1) := by decide +kernel
theorem dX6_meanClock_19 : decode cX6_meanClock 19 = .ok (.getfield 336, 3) := by decide +kernel
theorem dX6_meanClock_22 : decode cX6_meanClock 22 = .ok (.l2d, 1) := by decide +kernel
theorem dX6_meanClock_23 : decode cX6_meanClock 23 = .ok (.aload_n 0, 1) := by decide +kernel
theorem dX6_meanClock_24 : decode cX6_meanClock 24 = .ok (.getfield 325, 3) := by decide +kernel
theorem dX6_meanClock_27 : decode cX6_meanClock 27 = .ok (.i2d, 1) := by decide +kernel
theorem dX6_meanClock_28 : decode cX6_meanClock 28 = .ok (.ddiv, 1) := by decide +kernel
theorem dX6_meanClock_29 : decode cX6_meanClock 29 = .ok (.dreturn, 1) := by decide +kernel
theorem dX6_isSound_0 : decode cX6_isSound 0 = .ok (.aload_n 0, 1) := by decide +kernel
theorem dX6_isSound_1 : decode cX6_isSound 1 = .ok (.invokevirtual 339, 3) := by decide +kernel
theorem dX6_isSound_4 : decode cX6_isSound 4 = .ok (.ifCond .eq 14, 3) := by decide +kernel
theorem dX6_isSound_7 : decode cX6_isSound 7 = .ok (.aload_n 0, 1) := by decide +kernel
theorem dX6_isSound_8 : decode cX6_isSound 8 = .ok (.invokevirtual 342, 3) := by decide +kernel
theorem dX6_isSound_11 : decode cX6_isSound 11 = .ok (.ifCond .eq 7, 3) := by decide +kernel
theorem dX6_isSound_14 : decode cX6_isSound 14 = .ok (.iconst 1, 1) := by decide +kernel
theorem dX6_isSound_15 : decode cX6_isSound 15 = .ok (.goto 4, 3) := by decide +kernel
theorem dX6_isSound_18 : decode cX6_isSound 18 = .ok (.iconst 0, 1) := by decide +kernel
theorem dX6_isSound_19 : decode cX6_isSound 19 = .ok (.ireturn, 1) := by decide +kernel
theorem dX6_isWithin_0 : decode cX6_isWithin 0 = .ok (.iload_n 0, 1) := by decide +kernel
theorem dX6_isWithin_1 : decode cX6_isWithin 1 = .ok (.iload_n 1, 1) := by decide +kernel
theorem dX6_isWithin_2 : decode cX6_isWithin 2 = .ok (.if_icmp .lt 12, 3) := by decide +kernel
theorem dX6_isWithin_5 : decode cX6_isWithin 5 = .ok (.iload_n 0, 1) := by decide +kernel
theorem dX6_isWithin_6 : decode cX6_isWithin 6 = .ok (.iload_n 2, 1) := by decide +kernel
theorem dX6_isWithin_7 : decode cX6_isWithin 7 = .ok (.if_icmp .gt 7, 3) := by decide +kernel
theorem dX6_isWithin_10 : decode cX6_isWithin 10 = .ok (.iconst 1, 1) := by decide +kernel
theorem dX6_isWithin_11 : decode cX6_isWithin 11 = .ok (.goto 4, 3) := by decide +kernel
theorem dX6_isWithin_14 : decode cX6_isWithin 14 = .ok (.iconst 0, 1) := by decide +kernel
theorem dX6_isWithin_15 : decode cX6_isWithin 15 = .ok (.ireturn, 1) := by decide +kernel
theorem dX6_isTopic_0 : decode cX6_isTopic 0 = .ok (.iload_n 0, 1) := by decide +kernel
theorem dX6_isTopic_1 : decode cX6_isTopic 1 = .ok (.iconst 0, 1) := by decide +kernel
theorem dX6_isTopic_2 : decode cX6_isTopic 2 = .ok (.iconst 5, 1) := by decide +kernel
theorem dX6_isTopic_3 : decode cX6_isTopic 3 = .ok (.invokestatic 51, 3) := by decide +kernel
theorem dX6_isTopic_6 : decode cX6_isTopic 6 = .ok (.ireturn, 1) := by decide +kernel
theorem dX6_areWords_0 : decode cX6_areWords 0 = .ok (.iload_n 0, 1) := by decide +kernel
theorem dX6_areWords_1 : decode cX6_areWords 1 = .ok (.iconst 0, 1) := by decide +kernel
theorem dX6_areWords_2 : decode cX6_areWords 2 = .ok (.sipush 1023, 3) := by decide +kernel
theorem dX6_areWords_5 : decode cX6_areWords 5 = .ok (.invokestatic 51, 3) := by decide +kernel
theorem dX6_areWords_8 : decode cX6_areWords 8 = .ok (.ireturn, 1) := by decide +kernel
theorem dX6_isAnswer_0 : decode cX6_isAnswer 0 = .ok (.iload_n 1, 1) := by decide +kernel
theorem dX6_isAnswer_1 : decode cX6_isAnswer 1 = .ok (.iconst 0, 1) := by decide +kernel
theorem dX6_isAnswer_2 : decode cX6_isAnswer 2 = .ok (.aload_n 0, 1) := by decide +kernel
theorem dX6_isAnswer_3 : decode cX6_isAnswer 3 = .ok (.getfield 42, 3) := by decide +kernel
theorem dX6_isAnswer_6 : decode cX6_isAnswer 6 = .ok (.invokevirtual 62, 3) := by decide +kernel
theorem dX6_isAnswer_9 : decode cX6_isAnswer 9 = .ok (.iconst 1, 1) := by decide +kernel
theorem dX6_isAnswer_10 : decode cX6_isAnswer 10 = .ok (.isub, 1) := by decide +kernel
theorem dX6_isAnswer_11 : decode cX6_isAnswer 11 = .ok (.invokestatic 51, 3) := by decide +kernel
theorem dX6_isAnswer_14 : decode cX6_isAnswer 14 = .ok (.ireturn, 1) := by decide +kernel
theorem dX6_ticketNumbered_0 : decode cX6_ticketNumbered 0 = .ok (.iload_n 1, 1) := by decide +kernel
theorem dX6_ticketNumbered_1 : decode cX6_ticketNumbered 1 = .ok (.iconst 0, 1) := by decide +kernel
theorem dX6_ticketNumbered_2 : decode cX6_ticketNumbered 2 = .ok (.aload_n 0, 1) := by decide +kernel
theorem dX6_ticketNumbered_3 : decode cX6_ticketNumbered 3 = .ok (.getfield 36, 3) := by decide +kernel
theorem dX6_ticketNumbered_6 : decode cX6_ticketNumbered 6 = .ok (.invokevirtual 62, 3) := by decide +kernel
theorem dX6_ticketNumbered_9 : decode cX6_ticketNumbered 9 = .ok (.iconst 1, 1) := by decide +kernel
theorem dX6_ticketNumbered_10 : decode cX6_ticketNumbered 10 = .ok (.isub, 1) := by decide +kernel
theorem dX6_ticketNumbered_11 : decode cX6_ticketNumbered 11 = .ok (.invokestatic 51, 3) := by decide +kernel
theorem dX6_ticketNumbered_14 : decode cX6_ticketNumbered 14 = .ok (.ifCond .ne 14, 3) := by decide +kernel
theorem dX6_ticketNumbered_17 : decode cX6_ticketNumbered 17 = .ok (.new 345, 3) := by decide +kernel
theorem dX6_ticketNumbered_20 : decode cX6_ticketNumbered 20 = .ok (.dup, 1) := by decide +kernel
theorem dX6_ticketNumbered_21 : decode cX6_ticketNumbered 21 = .ok (.ldc_w 347, 3) := by decide +kernel
theorem dX6_ticketNumbered_24 : decode cX6_ticketNumbered 24 = .ok (.invokespecial 349, 3) := by decide +kernel
theorem dX6_ticketNumbered_27 : decode cX6_ticketNumbered 27 = .ok (.athrow, 1) := by decide +kernel
theorem dX6_ticketNumbered_28 : decode cX6_ticketNumbered 28 = .ok (.aload_n 0, 1) := by decide +kernel
theorem dX6_ticketNumbered_29 : decode cX6_ticketNumbered 29 = .ok (.getfield 36, 3) := by decide +kernel
theorem dX6_ticketNumbered_32 : decode cX6_ticketNumbered 32 = .ok (.iload_n 1, 1) := by decide +kernel
theorem dX6_ticketNumbered_33 : decode cX6_ticketNumbered 33 = .ok (.invokevirtual 66, 3) := by decide +kernel
theorem dX6_ticketNumbered_36 : decode cX6_ticketNumbered 36 = .ok (.checkcast 70, 3) := by decide +kernel
theorem dX6_ticketNumbered_39 : decode cX6_ticketNumbered 39 = .ok (.areturn, 1) := by decide +kernel
theorem dX6_agentNumbered_0 : decode cX6_agentNumbered 0 = .ok (.iload_n 1, 1) := by decide +kernel
theorem dX6_agentNumbered_1 : decode cX6_agentNumbered 1 = .ok (.iconst 0, 1) := by decide +kernel
theorem dX6_agentNumbered_2 : decode cX6_agentNumbered 2 = .ok (.aload_n 0, 1) := by decide +kernel
theorem dX6_agentNumbered_3 : decode cX6_agentNumbered 3 = .ok (.getfield 39, 3) := by decide +kernel
theorem dX6_agentNumbered_6 : decode cX6_agentNumbered 6 = .ok (.invokevirtual 62, 3) := by decide +kernel
theorem dX6_agentNumbered_9 : decode cX6_agentNumbered 9 = .ok (.iconst 1, 1) := by decide +kernel
theorem dX6_agentNumbered_10 : decode cX6_agentNumbered 10 = .ok (.isub, 1) := by decide +kernel
theorem dX6_agentNumbered_11 : decode cX6_agentNumbered 11 = .ok (.invokestatic 51, 3) := by decide +kernel
theorem dX6_agentNumbered_14 : decode cX6_agentNumbered 14 = .ok (.ifCond .ne 14, 3) := by decide +kernel
theorem dX6_agentNumbered_17 : decode cX6_agentNumbered 17 = .ok (.new 345, 3) := by decide +kernel
theorem dX6_agentNumbered_20 : decode cX6_agentNumbered 20 = .ok (.dup, 1) := by decide +kernel
theorem dX6_agentNumbered_21 : decode cX6_agentNumbered 21 = .ok (.ldc_w 350, 3) := by decide +kernel
theorem dX6_agentNumbered_24 : decode cX6_agentNumbered 24 = .ok (.invokespecial 349, 3) := by decide +kernel
theorem dX6_agentNumbered_27 : decode cX6_agentNumbered 27 = .ok (.athrow, 1) := by decide +kernel
theorem dX6_agentNumbered_28 : decode cX6_agentNumbered 28 = .ok (.aload_n 0, 1) := by decide +kernel
theorem dX6_agentNumbered_29 : decode cX6_agentNumbered 29 = .ok (.getfield 39, 3) := by decide +kernel
theorem dX6_agentNumbered_32 : decode cX6_agentNumbered 32 = .ok (.iload_n 1, 1) := by decide +kernel
theorem dX6_agentNumbered_33 : decode cX6_agentNumbered 33 = .ok (.invokevirtual 66, 3) := by decide +kernel
theorem dX6_agentNumbered_36 : decode cX6_agentNumbered 36 = .ok (.checkcast 178, 3) := by decide +kernel
theorem dX6_agentNumbered_39 : decode cX6_agentNumbered 39 = .ok (.areturn, 1) := by decide +kernel
theorem dX6_requireOpenOrHeld_0 : decode cX6_requireOpenOrHeld 0 = .ok (.aload_n 0, 1) := by decide +kernel
theorem dX6_requireOpenOrHeld_1 : decode cX6_requireOpenOrHeld 1 = .ok (.invokevirtual 191, 3) := by decide +kernel
theorem dX6_requireOpenOrHeld_4 : decode cX6_requireOpenOrHeld 4 = .ok (.ifCond .ne 14, 3) := by decide +kernel
theorem dX6_requireOpenOrHeld_7 : decode cX6_requireOpenOrHeld 7 = .ok (.new 118, 3) := by decide +kernel
theorem dX6_requireOpenOrHeld_10 : decode cX6_requireOpenOrHeld 10 = .ok (.dup, 1) := by decide +kernel
theorem dX6_requireOpenOrHeld_11 : decode cX6_requireOpenOrHeld 11 = .ok (.ldc_w 352, 3) := by decide +kernel
theorem dX6_requireOpenOrHeld_14 : decode cX6_requireOpenOrHeld 14 = .ok (.invokespecial 122, 3) := by decide +kernel
theorem dX6_requireOpenOrHeld_17 : decode cX6_requireOpenOrHeld 17 = .ok (.athrow, 1) := by decide +kernel
theorem dX6_requireOpenOrHeld_18 : decode cX6_requireOpenOrHeld 18 = .ok (.return_, 1) := by decide +kernel
theorem dX6_ticketToJoin_0 : decode cX6_ticketToJoin 0 = .ok (.iload_n 3, 1) := by decide +kernel
theorem dX6_ticketToJoin_1 : decode cX6_ticketToJoin 1 = .ok (.iconst 0, 1) := by decide +kernel
theorem dX6_ticketToJoin_2 : decode cX6_ticketToJoin 2 = .ok (.aload_n 0, 1) := by decide +kernel
theorem dX6_ticketToJoin_3 : decode cX6_ticketToJoin 3 = .ok (.getfield 32, 3) := by decide +kernel
theorem dX6_ticketToJoin_6 : decode cX6_ticketToJoin 6 = .ok (.invokevirtual 62, 3) := by decide +kernel
theorem dX6_ticketToJoin_9 : decode cX6_ticketToJoin 9 = .ok (.iconst 1, 1) := by decide +kernel
theorem dX6_ticketToJoin_10 : decode cX6_ticketToJoin 10 = .ok (.isub, 1) := by decide +kernel
theorem dX6_ticketToJoin_11 : decode cX6_ticketToJoin 11 = .ok (.invokestatic 51, 3) := by decide +kernel
theorem dX6_ticketToJoin_14 : decode cX6_ticketToJoin 14 = .ok (.ifCond .eq 43, 3) := by decide +kernel
theorem dX6_ticketToJoin_17 : decode cX6_ticketToJoin 17 = .ok (.aload_n 0, 1) := by decide +kernel
theorem dX6_ticketToJoin_18 : decode cX6_ticketToJoin 18 = .ok (.getfield 32, 3) := by decide +kernel
theorem dX6_ticketToJoin_21 : decode cX6_ticketToJoin 21 = .ok (.iload_n 3, 1) := by decide +kernel
theorem dX6_ticketToJoin_22 : decode cX6_ticketToJoin 22 = .ok (.invokevirtual 66, 3) := by decide +kernel
theorem dX6_ticketToJoin_25 : decode cX6_ticketToJoin 25 = .ok (.checkcast 146, 3) := by decide +kernel
theorem dX6_ticketToJoin_28 : decode cX6_ticketToJoin 28 = .ok (.getfield 148, 3) := by decide +kernel
theorem dX6_ticketToJoin_31 : decode cX6_ticketToJoin 31 = .ok (.astore 4, 2) := by decide +kernel
theorem dX6_ticketToJoin_33 : decode cX6_ticketToJoin 33 = .ok (.aload 4, 2) := by decide +kernel
theorem dX6_ticketToJoin_35 : decode cX6_ticketToJoin 35 = .ok (.getfield 298, 3) := by decide +kernel
theorem dX6_ticketToJoin_38 : decode cX6_ticketToJoin 38 = .ok (.aload_n 1, 1) := by decide +kernel
theorem dX6_ticketToJoin_39 : decode cX6_ticketToJoin 39 = .ok (.if_acmp .ne 18, 3) := by decide +kernel
theorem dX6_ticketToJoin_42 : decode cX6_ticketToJoin 42 = .ok (.aload 4, 2) := by decide +kernel
theorem dX6_ticketToJoin_44 : decode cX6_ticketToJoin 44 = .ok (.aload_n 0, 1) := by decide +kernel
theorem dX6_ticketToJoin_45 : decode cX6_ticketToJoin 45 = .ok (.getfield 84, 3) := by decide +kernel
theorem dX6_ticketToJoin_48 : decode cX6_ticketToJoin 48 = .ok (.invokevirtual 354, 3) := by decide +kernel
theorem dX6_ticketToJoin_51 : decode cX6_ticketToJoin 51 = .ok (.ifCond .eq 6, 3) := by decide +kernel
theorem dX6_ticketToJoin_54 : decode cX6_ticketToJoin 54 = .ok (.aload 4, 2) := by decide +kernel
theorem dX6_ticketToJoin_56 : decode cX6_ticketToJoin 56 = .ok (.areturn, 1) := by decide +kernel
theorem dX6_ticketToJoin_57 : decode cX6_ticketToJoin 57 = .ok (.aload_n 0, 1) := by decide +kernel
theorem dX6_ticketToJoin_58 : decode cX6_ticketToJoin 58 = .ok (.aload_n 1, 1) := by decide +kernel
theorem dX6_ticketToJoin_59 : decode cX6_ticketToJoin 59 = .ok (.iload_n 2, 1) := by decide +kernel
theorem dX6_ticketToJoin_60 : decode cX6_ticketToJoin 60 = .ok (.invokevirtual 357, 3) := by decide +kernel
theorem dX6_ticketToJoin_63 : decode cX6_ticketToJoin 63 = .ok (.areturn, 1) := by decide +kernel
theorem dX6_latestWithSubject_0 : decode cX6_latestWithSubject 0 = .ok (.aconst_null, 1) := by decide +kernel
theorem dX6_latestWithSubject_1 : decode cX6_latestWithSubject 1 = .ok (.astore_n 3, 1) := by decide +kernel
theorem dX6_latestWithSubject_2 : decode cX6_latestWithSubject 2 = .ok (.iconst 0, 1) := by decide +kernel
theorem dX6_latestWithSubject_3 : decode cX6_latestWithSubject 3 = .ok (.istore 4, 2) := by decide +kernel
theorem dX6_latestWithSubject_5 : decode cX6_latestWithSubject 5 = .ok (.iload 4, 2) := by decide +kernel
theorem dX6_latestWithSubject_7 : decode cX6_latestWithSubject 7 = .ok (.aload_n 0, 1) := by decide +kernel
theorem dX6_latestWithSubject_8 : decode cX6_latestWithSubject 8 = .ok (.getfield 36, 3) := by decide +kernel
theorem dX6_latestWithSubject_11 : decode cX6_latestWithSubject 11 = .ok (.invokevirtual 62, 3) := by decide +kernel
theorem dX6_latestWithSubject_14 : decode cX6_latestWithSubject 14 = .ok (.if_icmp .ge 84, 3) := by decide +kernel
theorem dX6_latestWithSubject_17 : decode cX6_latestWithSubject 17 = .ok (.aload_n 0, 1) := by decide +kernel
theorem dX6_latestWithSubject_18 : decode cX6_latestWithSubject 18 = .ok (.getfield 36, 3) := by decide +kernel
theorem dX6_latestWithSubject_21 : decode cX6_latestWithSubject 21 = .ok (.iload 4, 2) := by decide +kernel
theorem dX6_latestWithSubject_23 : decode cX6_latestWithSubject 23 = .ok (.invokevirtual 66, 3) := by decide +kernel
theorem dX6_latestWithSubject_26 : decode cX6_latestWithSubject 26 = .ok (.checkcast 70, 3) := by decide +kernel
theorem dX6_latestWithSubject_29 : decode cX6_latestWithSubject 29 = .ok (.astore 5, 2) := by decide +kernel
theorem dX6_latestWithSubject_31 : decode cX6_latestWithSubject 31 = .ok (.aload 5, 2) := by decide +kernel
theorem dX6_latestWithSubject_33 : decode cX6_latestWithSubject 33 = .ok (.getfield 298, 3) := by decide +kernel
theorem dX6_latestWithSubject_36 : decode cX6_latestWithSubject 36 = .ok (.aload_n 1, 1) := by decide +kernel
theorem dX6_latestWithSubject_37 : decode cX6_latestWithSubject 37 = .ok (.if_acmp .ne 28, 3) := by decide +kernel
theorem dX6_latestWithSubject_40 : decode cX6_latestWithSubject 40 = .ok (.aload 5, 2) := by decide +kernel
theorem dX6_latestWithSubject_42 : decode cX6_latestWithSubject 42 = .ok (.getfield 361, 3) := by decide +kernel
theorem dX6_latestWithSubject_45 : decode cX6_latestWithSubject 45 = .ok (.iload_n 2, 1) := by decide +kernel
theorem dX6_latestWithSubject_46 : decode cX6_latestWithSubject 46 = .ok (.if_icmp .ne 19, 3) := by decide +kernel
theorem dX6_latestWithSubject_49 : decode cX6_latestWithSubject 49 = .ok (.aload 5, 2) := by decide +kernel
theorem dX6_latestWithSubject_51 : decode cX6_latestWithSubject 51 = .ok (.aload_n 0, 1) := by decide +kernel
theorem dX6_latestWithSubject_52 : decode cX6_latestWithSubject 52 = .ok (.getfield 84, 3) := by decide +kernel
theorem dX6_latestWithSubject_55 : decode cX6_latestWithSubject 55 = .ok (.invokevirtual 354, 3) := by decide +kernel
theorem dX6_latestWithSubject_58 : decode cX6_latestWithSubject 58 = .ok (.ifCond .eq 7, 3) := by decide +kernel
theorem dX6_latestWithSubject_61 : decode cX6_latestWithSubject 61 = .ok (.iconst 1, 1) := by decide +kernel
theorem dX6_latestWithSubject_62 : decode cX6_latestWithSubject 62 = .ok (.goto 4, 3) := by decide +kernel
theorem dX6_latestWithSubject_65 : decode cX6_latestWithSubject 65 = .ok (.iconst 0, 1) := by decide +kernel
theorem dX6_latestWithSubject_66 : decode cX6_latestWithSubject 66 = .ok (.istore 6, 2) := by decide +kernel
theorem dX6_latestWithSubject_68 : decode cX6_latestWithSubject 68 = .ok (.iload 6, 2) := by decide +kernel
theorem dX6_latestWithSubject_70 : decode cX6_latestWithSubject 70 = .ok (.ifCond .eq 22, 3) := by decide +kernel
theorem dX6_latestWithSubject_73 : decode cX6_latestWithSubject 73 = .ok (.aload_n 3, 1) := by decide +kernel
theorem dX6_latestWithSubject_74 : decode cX6_latestWithSubject 74 = .ok (.ifnull 15, 3) := by decide +kernel
theorem dX6_latestWithSubject_77 : decode cX6_latestWithSubject 77 = .ok (.aload 5, 2) := by decide +kernel
theorem dX6_latestWithSubject_79 : decode cX6_latestWithSubject 79 = .ok (.invokevirtual 364, 3) := by decide +kernel
theorem dX6_latestWithSubject_82 : decode cX6_latestWithSubject 82 = .ok (.aload_n 3, 1) := by decide +kernel
theorem dX6_latestWithSubject_83 : decode cX6_latestWithSubject 83 = .ok (.invokevirtual 364, 3) := by decide +kernel
theorem dX6_latestWithSubject_86 : decode cX6_latestWithSubject 86 = .ok (.if_icmp .le 6, 3) := by decide +kernel
theorem dX6_latestWithSubject_89 : decode cX6_latestWithSubject 89 = .ok (.aload 5, 2) := by decide +kernel
theorem dX6_latestWithSubject_91 : decode cX6_latestWithSubject 91 = .ok (.astore_n 3, 1) := by decide +kernel
theorem dX6_latestWithSubject_92 : decode cX6_latestWithSubject 92 = .ok (.iinc 4 1, 3) := by decide +kernel
theorem dX6_latestWithSubject_95 : decode cX6_latestWithSubject 95 = .ok (.goto (-90), 3) := by decide +kernel
theorem dX6_latestWithSubject_98 : decode cX6_latestWithSubject 98 = .ok (.aload_n 3, 1) := by decide +kernel
theorem dX6_latestWithSubject_99 : decode cX6_latestWithSubject 99 = .ok (.areturn, 1) := by decide +kernel
theorem dX6_addMail_0 : decode cX6_addMail 0 = .ok (.new 146, 3) := by decide +kernel
theorem dX6_addMail_3 : decode cX6_addMail 3 = .ok (.dup, 1) := by decide +kernel
theorem dX6_addMail_4 : decode cX6_addMail 4 = .ok (.aload_n 0, 1) := by decide +kernel
theorem dX6_addMail_5 : decode cX6_addMail 5 = .ok (.getfield 32, 3) := by decide +kernel
theorem dX6_addMail_8 : decode cX6_addMail 8 = .ok (.invokevirtual 62, 3) := by decide +kernel
theorem dX6_addMail_11 : decode cX6_addMail 11 = .ok (.aload_n 1, 1) := by decide +kernel
theorem dX6_addMail_12 : decode cX6_addMail 12 = .ok (.invokespecial 367, 3) := by decide +kernel
theorem dX6_addMail_15 : decode cX6_addMail 15 = .ok (.astore_n 3, 1) := by decide +kernel
theorem dX6_addMail_16 : decode cX6_addMail 16 = .ok (.aload_n 0, 1) := by decide +kernel
theorem dX6_addMail_17 : decode cX6_addMail 17 = .ok (.getfield 32, 3) := by decide +kernel
theorem dX6_addMail_20 : decode cX6_addMail 20 = .ok (.aload_n 3, 1) := by decide +kernel
theorem dX6_addMail_21 : decode cX6_addMail 21 = .ok (.invokevirtual 126, 3) := by decide +kernel
theorem dX6_addMail_24 : decode cX6_addMail 24 = .ok (.pop, 1) := by decide +kernel
theorem dX6_addMail_25 : decode cX6_addMail 25 = .ok (.aload_n 1, 1) := by decide +kernel
theorem dX6_addMail_26 : decode cX6_addMail 26 = .ok (.aload_n 3, 1) := by decide +kernel
theorem dX6_addMail_27 : decode cX6_addMail 27 = .ok (.invokevirtual 370, 3) := by decide +kernel
theorem dX6_addMail_30 : decode cX6_addMail 30 = .ok (.aload_n 1, 1) := by decide +kernel
theorem dX6_addMail_31 : decode cX6_addMail 31 = .ok (.dup, 1) := by decide +kernel
theorem dX6_addMail_32 : decode cX6_addMail 32 = .ok (.getfield 374, 3) := by decide +kernel
theorem dX6_addMail_35 : decode cX6_addMail 35 = .ok (.iload_n 2, 1) := by decide +kernel
theorem dX6_addMail_36 : decode cX6_addMail 36 = .ok (.ior, 1) := by decide +kernel
theorem dX6_addMail_37 : decode cX6_addMail 37 = .ok (.putfield 374, 3) := by decide +kernel
theorem dX6_addMail_40 : decode cX6_addMail 40 = .ok (.aload_n 1, 1) := by decide +kernel
theorem dX6_addMail_41 : decode cX6_addMail 41 = .ok (.getfield 72, 3) := by decide +kernel
theorem dX6_addMail_44 : decode cX6_addMail 44 = .ok (.bipush 97, 2) := by decide +kernel
theorem dX6_addMail_46 : decode cX6_addMail 46 = .ok (.if_icmp .eq 12, 3) := by decide +kernel
theorem dX6_addMail_49 : decode cX6_addMail 49 = .ok (.aload_n 1, 1) := by decide +kernel
theorem dX6_addMail_50 : decode cX6_addMail 50 = .ok (.getfield 72, 3) := by decide +kernel
theorem dX6_addMail_53 : decode cX6_addMail 53 = .ok (.bipush 99, 2) := by decide +kernel
theorem dX6_addMail_55 : decode cX6_addMail 55 = .ok (.if_icmp .ne 7, 3) := by decide +kernel
theorem dX6_addMail_58 : decode cX6_addMail 58 = .ok (.aload_n 1, 1) := by decide +kernel
theorem dX6_addMail_59 : decode cX6_addMail 59 = .ok (.invokevirtual 377, 3) := by decide +kernel
theorem dX6_addMail_62 : decode cX6_addMail 62 = .ok (.return_, 1) := by decide +kernel
theorem dX6_leaveQueue_0 : decode cX6_leaveQueue 0 = .ok (.aload_n 0, 1) := by decide +kernel
theorem dX6_leaveQueue_1 : decode cX6_leaveQueue 1 = .ok (.getfield 24, 3) := by decide +kernel
theorem dX6_leaveQueue_4 : decode cX6_leaveQueue 4 = .ok (.aload_n 1, 1) := by decide +kernel
theorem dX6_leaveQueue_5 : decode cX6_leaveQueue 5 = .ok (.getfield 170, 3) := by decide +kernel
theorem dX6_leaveQueue_8 : decode cX6_leaveQueue 8 = .ok (.aaload, 1) := by decide +kernel
theorem dX6_leaveQueue_9 : decode cX6_leaveQueue 9 = .ok (.aload_n 1, 1) := by decide +kernel
theorem dX6_leaveQueue_10 : decode cX6_leaveQueue 10 = .ok (.invokevirtual 380, 3) := by decide +kernel
theorem dX6_leaveQueue_13 : decode cX6_leaveQueue 13 = .ok (.return_, 1) := by decide +kernel
theorem dX6_joinQueue_0 : decode cX6_joinQueue 0 = .ok (.aload_n 1, 1) := by decide +kernel
theorem dX6_joinQueue_1 : decode cX6_joinQueue 1 = .ok (.invokevirtual 383, 3) := by decide +kernel
theorem dX6_joinQueue_4 : decode cX6_joinQueue 4 = .ok (.ifCond .eq 16, 3) := by decide +kernel
theorem dX6_joinQueue_7 : decode cX6_joinQueue 7 = .ok (.aload_n 0, 1) := by decide +kernel
theorem dX6_joinQueue_8 : decode cX6_joinQueue 8 = .ok (.getfield 24, 3) := by decide +kernel
theorem dX6_joinQueue_11 : decode cX6_joinQueue 11 = .ok (.aload_n 1, 1) := by decide +kernel
theorem dX6_joinQueue_12 : decode cX6_joinQueue 12 = .ok (.getfield 170, 3) := by decide +kernel
theorem dX6_joinQueue_15 : decode cX6_joinQueue 15 = .ok (.aaload, 1) := by decide +kernel
theorem dX6_joinQueue_16 : decode cX6_joinQueue 16 = .ok (.aload_n 1, 1) := by decide +kernel
theorem dX6_joinQueue_17 : decode cX6_joinQueue 17 = .ok (.invokevirtual 386, 3) := by decide +kernel
theorem dX6_joinQueue_20 : decode cX6_joinQueue 20 = .ok (.return_, 1) := by decide +kernel
theorem dX6_giveAllBack_0 : decode cX6_giveAllBack 0 = .ok (.iconst 0, 1) := by decide +kernel
theorem dX6_giveAllBack_1 : decode cX6_giveAllBack 1 = .ok (.istore_n 2, 1) := by decide +kernel
theorem dX6_giveAllBack_2 : decode cX6_giveAllBack 2 = .ok (.iload_n 2, 1) := by decide +kernel
theorem dX6_giveAllBack_3 : decode cX6_giveAllBack 3 = .ok (.aload_n 0, 1) := by decide +kernel
theorem dX6_giveAllBack_4 : decode cX6_giveAllBack 4 = .ok (.getfield 36, 3) := by decide +kernel
theorem dX6_giveAllBack_7 : decode cX6_giveAllBack 7 = .ok (.invokevirtual 62, 3) := by decide +kernel
theorem dX6_giveAllBack_10 : decode cX6_giveAllBack 10 = .ok (.if_icmp .ge 38, 3) := by decide +kernel
theorem dX6_giveAllBack_13 : decode cX6_giveAllBack 13 = .ok (.aload_n 0, 1) := by decide +kernel
theorem dX6_giveAllBack_14 : decode cX6_giveAllBack 14 = .ok (.getfield 36, 3) := by decide +kernel
theorem dX6_giveAllBack_17 : decode cX6_giveAllBack 17 = .ok (.iload_n 2, 1) := by decide +kernel
theorem dX6_giveAllBack_18 : decode cX6_giveAllBack 18 = .ok (.invokevirtual 66, 3) := by decide +kernel
theorem dX6_giveAllBack_21 : decode cX6_giveAllBack 21 = .ok (.checkcast 70, 3) := by decide +kernel
theorem dX6_giveAllBack_24 : decode cX6_giveAllBack 24 = .ok (.astore_n 3, 1) := by decide +kernel
theorem dX6_giveAllBack_25 : decode cX6_giveAllBack 25 = .ok (.aload_n 3, 1) := by decide +kernel
theorem dX6_giveAllBack_26 : decode cX6_giveAllBack 26 = .ok (.getfield 173, 3) := by decide +kernel
theorem dX6_giveAllBack_29 : decode cX6_giveAllBack 29 = .ok (.aload_n 1, 1) := by decide +kernel
theorem dX6_giveAllBack_30 : decode cX6_giveAllBack 30 = .ok (.if_acmp .ne 12, 3) := by decide +kernel
theorem dX6_giveAllBack_33 : decode cX6_giveAllBack 33 = .ok (.aload_n 3, 1) := by decide +kernel
theorem dX6_giveAllBack_34 : decode cX6_giveAllBack 34 = .ok (.invokevirtual 182, 3) := by decide +kernel
theorem dX6_giveAllBack_37 : decode cX6_giveAllBack 37 = .ok (.aload_n 0, 1) := by decide +kernel
theorem dX6_giveAllBack_38 : decode cX6_giveAllBack 38 = .ok (.aload_n 3, 1) := by decide +kernel
theorem dX6_giveAllBack_39 : decode cX6_giveAllBack 39 = .ok (.invokevirtual 138, 3) := by decide +kernel
theorem dX6_giveAllBack_42 : decode cX6_giveAllBack 42 = .ok (.iinc 2 1, 3) := by decide +kernel
theorem dX6_giveAllBack_45 : decode cX6_giveAllBack 45 = .ok (.goto (-43), 3) := by decide +kernel
theorem dX6_giveAllBack_48 : decode cX6_giveAllBack 48 = .ok (.return_, 1) := by decide +kernel
theorem dX6_orderQueuesAnew_0 : decode cX6_orderQueuesAnew 0 = .ok (.iconst 0, 1) := by decide +kernel
theorem dX6_orderQueuesAnew_1 : decode cX6_orderQueuesAnew 1 = .ok (.istore_n 1, 1) := by decide +kernel
theorem dX6_orderQueuesAnew_2 : decode cX6_orderQueuesAnew 2 = .ok (.iload_n 1, 1) := by decide +kernel
theorem dX6_orderQueuesAnew_3 : decode cX6_orderQueuesAnew 3 = .ok (.bipush 6, 2) := by decide +kernel
theorem dX6_orderQueuesAnew_5 : decode cX6_orderQueuesAnew 5 = .ok (.if_icmp .ge 18, 3) := by decide +kernel
theorem dX6_orderQueuesAnew_8 : decode cX6_orderQueuesAnew 8 = .ok (.aload_n 0, 1) := by decide +kernel
theorem dX6_orderQueuesAnew_9 : decode cX6_orderQueuesAnew 9 = .ok (.getfield 24, 3) := by decide +kernel
theorem dX6_orderQueuesAnew_12 : decode cX6_orderQueuesAnew 12 = .ok (.iload_n 1, 1) := by decide +kernel
theorem dX6_orderQueuesAnew_13 : decode cX6_orderQueuesAnew 13 = .ok (.aaload, 1) := by decide +kernel
theorem dX6_orderQueuesAnew_14 : decode cX6_orderQueuesAnew 14 = .ok (.invokevirtual 388, 3) := by decide +kernel
theorem dX6_orderQueuesAnew_17 : decode cX6_orderQueuesAnew 17 = .ok (.iinc 1 1, 3) := by decide +kernel
theorem dX6_orderQueuesAnew_20 : decode cX6_orderQueuesAnew 20 = .ok (.goto (-18), 3) := by decide +kernel
theorem dX6_orderQueuesAnew_23 : decode cX6_orderQueuesAnew 23 = .ok (.return_, 1) := by decide +kernel
theorem dX6_nextFromQueues_0 : decode cX6_nextFromQueues 0 = .ok (.aconst_null, 1) := by decide +kernel
theorem dX6_nextFromQueues_1 : decode cX6_nextFromQueues 1 = .ok (.astore_n 2, 1) := by decide +kernel
theorem dX6_nextFromQueues_2 : decode cX6_nextFromQueues 2 = .ok (.iconst 0, 1) := by decide +kernel
theorem dX6_nextFromQueues_3 : decode cX6_nextFromQueues 3 = .ok (.istore_n 3, 1) := by decide +kernel
theorem dX6_nextFromQueues_4 : decode cX6_nextFromQueues 4 = .ok (.iload_n 3, 1) := by decide +kernel
theorem dX6_nextFromQueues_5 : decode cX6_nextFromQueues 5 = .ok (.bipush 6, 2) := by decide +kernel
theorem dX6_nextFromQueues_7 : decode cX6_nextFromQueues 7 = .ok (.if_icmp .ge 31, 3) := by decide +kernel
theorem dX6_nextFromQueues_10 : decode cX6_nextFromQueues 10 = .ok (.aload_n 1, 1) := by decide +kernel
theorem dX6_nextFromQueues_11 : decode cX6_nextFromQueues 11 = .ok (.iload_n 3, 1) := by decide +kernel
theorem dX6_nextFromQueues_12 : decode cX6_nextFromQueues 12 = .ok (.invokevirtual 246, 3) := by decide +kernel
theorem dX6_nextFromQueues_15 : decode cX6_nextFromQueues 15 = .ok (.ifCond .eq 17, 3) := by decide +kernel
theorem dX6_nextFromQueues_18 : decode cX6_nextFromQueues 18 = .ok (.aload_n 2, 1) := by decide +kernel
theorem dX6_nextFromQueues_19 : decode cX6_nextFromQueues 19 = .ok (.aload_n 0, 1) := by decide +kernel
theorem dX6_nextFromQueues_20 : decode cX6_nextFromQueues 20 = .ok (.getfield 24, 3) := by decide +kernel
theorem dX6_nextFromQueues_23 : decode cX6_nextFromQueues 23 = .ok (.iload_n 3, 1) := by decide +kernel
theorem dX6_nextFromQueues_24 : decode cX6_nextFromQueues 24 = .ok (.aaload, 1) := by decide +kernel
theorem dX6_nextFromQueues_25 : decode cX6_nextFromQueues 25 = .ok (.invokevirtual 391, 3) := by decide +kernel
theorem dX6_nextFromQueues_28 : decode cX6_nextFromQueues 28 = .ok (.invokestatic 395, 3) := by decide +kernel
theorem dX6_nextFromQueues_31 : decode cX6_nextFromQueues 31 = .ok (.astore_n 2, 1) := by decide +kernel
theorem dX6_nextFromQueues_32 : decode cX6_nextFromQueues 32 = .ok (.iinc 3 1, 3) := by decide +kernel
theorem dX6_nextFromQueues_35 : decode cX6_nextFromQueues 35 = .ok (.goto (-31), 3) := by decide +kernel
theorem dX6_nextFromQueues_38 : decode cX6_nextFromQueues 38 = .ok (.aload_n 2, 1) := by decide +kernel
theorem dX6_nextFromQueues_39 : decode cX6_nextFromQueues 39 = .ok (.areturn, 1) := by decide +kernel
theorem dX6_nextFromTickets_0 : decode cX6_nextFromTickets 0 = .ok (.aconst_null, 1) := by decide +kernel
theorem dX6_nextFromTickets_1 : decode cX6_nextFromTickets 1 = .ok (.astore_n 2, 1) := by decide +kernel
theorem dX6_nextFromTickets_2 : decode cX6_nextFromTickets 2 = .ok (.iconst 0, 1) := by decide +kernel
theorem dX6_nextFromTickets_3 : decode cX6_nextFromTickets 3 = .ok (.istore_n 3, 1) := by decide +kernel
theorem dX6_nextFromTickets_4 : decode cX6_nextFromTickets 4 = .ok (.iload_n 3, 1) := by decide +kernel
theorem dX6_nextFromTickets_5 : decode cX6_nextFromTickets 5 = .ok (.aload_n 0, 1) := by decide +kernel
theorem dX6_nextFromTickets_6 : decode cX6_nextFromTickets 6 = .ok (.getfield 36, 3) := by decide +kernel
theorem dX6_nextFromTickets_9 : decode cX6_nextFromTickets 9 = .ok (.invokevirtual 62, 3) := by decide +kernel
theorem dX6_nextFromTickets_12 : decode cX6_nextFromTickets 12 = .ok (.if_icmp .ge 49, 3) := by decide +kernel
theorem dX6_nextFromTickets_15 : decode cX6_nextFromTickets 15 = .ok (.aload_n 0, 1) := by decide +kernel
theorem dX6_nextFromTickets_16 : decode cX6_nextFromTickets 16 = .ok (.getfield 36, 3) := by decide +kernel
theorem dX6_nextFromTickets_19 : decode cX6_nextFromTickets 19 = .ok (.iload_n 3, 1) := by decide +kernel
theorem dX6_nextFromTickets_20 : decode cX6_nextFromTickets 20 = .ok (.invokevirtual 66, 3) := by decide +kernel
theorem dX6_nextFromTickets_23 : decode cX6_nextFromTickets 23 = .ok (.checkcast 70, 3) := by decide +kernel
theorem dX6_nextFromTickets_26 : decode cX6_nextFromTickets 26 = .ok (.astore 4, 2) := by decide +kernel
theorem dX6_nextFromTickets_28 : decode cX6_nextFromTickets 28 = .ok (.aload 4, 2) := by decide +kernel
theorem dX6_nextFromTickets_30 : decode cX6_nextFromTickets 30 = .ok (.invokevirtual 383, 3) := by decide +kernel
theorem dX6_nextFromTickets_33 : decode cX6_nextFromTickets 33 = .ok (.ifCond .eq 22, 3) := by decide +kernel
theorem dX6_nextFromTickets_36 : decode cX6_nextFromTickets 36 = .ok (.aload_n 1, 1) := by decide +kernel
theorem dX6_nextFromTickets_37 : decode cX6_nextFromTickets 37 = .ok (.aload 4, 2) := by decide +kernel
theorem dX6_nextFromTickets_39 : decode cX6_nextFromTickets 39 = .ok (.getfield 170, 3) := by decide +kernel
theorem dX6_nextFromTickets_42 : decode cX6_nextFromTickets 42 = .ok (.invokevirtual 246, 3) := by decide +kernel
theorem dX6_nextFromTickets_45 : decode cX6_nextFromTickets 45 = .ok (.ifCond .eq 10, 3) := by decide +kernel
theorem dX6_nextFromTickets_48 : decode cX6_nextFromTickets 48 = .ok (.aload_n 2, 1) := by decide +kernel
theorem dX6_nextFromTickets_49 : decode cX6_nextFromTickets 49 = .ok (.aload 4, 2) := by decide +kernel
theorem dX6_nextFromTickets_51 : decode cX6_nextFromTickets 51 = .ok (.invokestatic 395, 3) := by decide +kernel
theorem dX6_nextFromTickets_54 : decode cX6_nextFromTickets 54 = .ok (.astore_n 2, 1) := by decide +kernel
theorem dX6_nextFromTickets_55 : decode cX6_nextFromTickets 55 = .ok (.iinc 3 1, 3) := by decide +kernel
theorem dX6_nextFromTickets_58 : decode cX6_nextFromTickets 58 = .ok (.goto (-54), 3) := by decide +kernel
theorem dX6_nextFromTickets_61 : decode cX6_nextFromTickets 61 = .ok (.aload_n 2, 1) := by decide +kernel
theorem dX6_nextFromTickets_62 : decode cX6_nextFromTickets 62 = .ok (.areturn, 1) := by decide +kernel
theorem dX6_earlierOf_0 : decode cX6_earlierOf 0 = .ok (.aload_n 0, 1) := by decide +kernel
theorem dX6_earlierOf_1 : decode cX6_earlierOf 1 = .ok (.ifnonnull 5, 3) := by decide +kernel
theorem dX6_earlierOf_4 : decode cX6_earlierOf 4 = .ok (.aload_n 1, 1) := by decide +kernel
theorem dX6_earlierOf_5 : decode cX6_earlierOf 5 = .ok (.areturn, 1) := by decide +kernel
theorem dX6_earlierOf_6 : decode cX6_earlierOf 6 = .ok (.aload_n 1, 1) := by decide +kernel
theorem dX6_earlierOf_7 : decode cX6_earlierOf 7 = .ok (.ifnonnull 5, 3) := by decide +kernel
theorem dX6_earlierOf_10 : decode cX6_earlierOf 10 = .ok (.aload_n 0, 1) := by decide +kernel
theorem dX6_earlierOf_11 : decode cX6_earlierOf 11 = .ok (.areturn, 1) := by decide +kernel
theorem dX6_earlierOf_12 : decode cX6_earlierOf 12 = .ok (.aload_n 1, 1) := by decide +kernel
theorem dX6_earlierOf_13 : decode cX6_earlierOf 13 = .ok (.aload_n 0, 1) := by decide +kernel
theorem dX6_earlierOf_14 : decode cX6_earlierOf 14 = .ok (.invokevirtual 399, 3) := by decide +kernel
theorem dX6_earlierOf_17 : decode cX6_earlierOf 17 = .ok (.ifCond .eq 7, 3) := by decide +kernel
theorem dX6_earlierOf_20 : decode cX6_earlierOf 20 = .ok (.aload_n 1, 1) := by decide +kernel
theorem dX6_earlierOf_21 : decode cX6_earlierOf 21 = .ok (.goto 4, 3) := by decide +kernel
theorem dX6_earlierOf_24 : decode cX6_earlierOf 24 = .ok (.aload_n 0, 1) := by decide +kernel
theorem dX6_earlierOf_25 : decode cX6_earlierOf 25 = .ok (.areturn, 1) := by decide +kernel
theorem dX6_bestFromAnswers_0 : decode cX6_bestFromAnswers 0 = .ok (.iconst (-1), 1) := by decide +kernel
theorem dX6_bestFromAnswers_1 : decode cX6_bestFromAnswers 1 = .ok (.istore_n 2, 1) := by decide +kernel
theorem dX6_bestFromAnswers_2 : decode cX6_bestFromAnswers 2 = .ok (.iconst 0, 1) := by decide +kernel
theorem dX6_bestFromAnswers_3 : decode cX6_bestFromAnswers 3 = .ok (.istore_n 3, 1) := by decide +kernel
theorem dX6_bestFromAnswers_4 : decode cX6_bestFromAnswers 4 = .ok (.iconst 0, 1) := by decide +kernel
theorem dX6_bestFromAnswers_5 : decode cX6_bestFromAnswers 5 = .ok (.istore 4, 2) := by decide +kernel
theorem dX6_bestFromAnswers_7 : decode cX6_bestFromAnswers 7 = .ok (.iload 4, 2) := by decide +kernel
theorem dX6_bestFromAnswers_9 : decode cX6_bestFromAnswers 9 = .ok (.aload_n 0, 1) := by decide +kernel
theorem dX6_bestFromAnswers_10 : decode cX6_bestFromAnswers 10 = .ok (.getfield 42, 3) := by decide +kernel
theorem dX6_bestFromAnswers_13 : decode cX6_bestFromAnswers 13 = .ok (.invokevirtual 62, 3) := by decide +kernel
theorem dX6_bestFromAnswers_16 : decode cX6_bestFromAnswers 16 = .ok (.if_icmp .ge 73, 3) := by decide +kernel
theorem dX6_bestFromAnswers_19 : decode cX6_bestFromAnswers 19 = .ok (.aload_n 0, 1) := by decide +kernel
theorem dX6_bestFromAnswers_20 : decode cX6_bestFromAnswers 20 = .ok (.getfield 42, 3) := by decide +kernel
theorem dX6_bestFromAnswers_23 : decode cX6_bestFromAnswers 23 = .ok (.iload 4, 2) := by decide +kernel
theorem dX6_bestFromAnswers_25 : decode cX6_bestFromAnswers 25 = .ok (.invokevirtual 66, 3) := by decide +kernel
theorem dX6_bestFromAnswers_28 : decode cX6_bestFromAnswers 28 = .ok (.checkcast 275, 3) := by decide +kernel
theorem dX6_bestFromAnswers_31 : decode cX6_bestFromAnswers 31 = .ok (.astore 5, 2) := by decide +kernel
theorem dX6_bestFromAnswers_33 : decode cX6_bestFromAnswers 33 = .ok (.aload 5, 2) := by decide +kernel
theorem dX6_bestFromAnswers_35 : decode cX6_bestFromAnswers 35 = .ok (.getfield 403, 3) := by decide +kernel
theorem dX6_bestFromAnswers_38 : decode cX6_bestFromAnswers 38 = .ok (.aload_n 1, 1) := by decide +kernel
theorem dX6_bestFromAnswers_39 : decode cX6_bestFromAnswers 39 = .ok (.getfield 374, 3) := by decide +kernel
theorem dX6_bestFromAnswers_42 : decode cX6_bestFromAnswers 42 = .ok (.iand, 1) := by decide +kernel
theorem dX6_bestFromAnswers_43 : decode cX6_bestFromAnswers 43 = .ok (.invokestatic 218, 3) := by decide +kernel
theorem dX6_bestFromAnswers_46 : decode cX6_bestFromAnswers 46 = .ok (.istore 6, 2) := by decide +kernel
theorem dX6_bestFromAnswers_48 : decode cX6_bestFromAnswers 48 = .ok (.bipush 10, 2) := by decide +kernel
theorem dX6_bestFromAnswers_50 : decode cX6_bestFromAnswers 50 = .ok (.iload 6, 2) := by decide +kernel
theorem dX6_bestFromAnswers_52 : decode cX6_bestFromAnswers 52 = .ok (.imul, 1) := by decide +kernel
theorem dX6_bestFromAnswers_53 : decode cX6_bestFromAnswers 53 = .ok (.aload 5, 2) := by decide +kernel
theorem dX6_bestFromAnswers_55 : decode cX6_bestFromAnswers 55 = .ok (.getfield 313, 3) := by decide +kernel
theorem dX6_bestFromAnswers_58 : decode cX6_bestFromAnswers 58 = .ok (.aload_n 1, 1) := by decide +kernel
theorem dX6_bestFromAnswers_59 : decode cX6_bestFromAnswers 59 = .ok (.getfield 170, 3) := by decide +kernel
theorem dX6_bestFromAnswers_62 : decode cX6_bestFromAnswers 62 = .ok (.iaload, 1) := by decide +kernel
theorem dX6_bestFromAnswers_63 : decode cX6_bestFromAnswers 63 = .ok (.iadd, 1) := by decide +kernel
theorem dX6_bestFromAnswers_64 : decode cX6_bestFromAnswers 64 = .ok (.istore 7, 2) := by decide +kernel
theorem dX6_bestFromAnswers_66 : decode cX6_bestFromAnswers 66 = .ok (.iload 6, 2) := by decide +kernel
theorem dX6_bestFromAnswers_68 : decode cX6_bestFromAnswers 68 = .ok (.ifCond .le 15, 3) := by decide +kernel
theorem dX6_bestFromAnswers_71 : decode cX6_bestFromAnswers 71 = .ok (.iload 7, 2) := by decide +kernel
theorem dX6_bestFromAnswers_73 : decode cX6_bestFromAnswers 73 = .ok (.iload_n 3, 1) := by decide +kernel
theorem dX6_bestFromAnswers_74 : decode cX6_bestFromAnswers 74 = .ok (.if_icmp .le 9, 3) := by decide +kernel
theorem dX6_bestFromAnswers_77 : decode cX6_bestFromAnswers 77 = .ok (.iload 4, 2) := by decide +kernel
theorem dX6_bestFromAnswers_79 : decode cX6_bestFromAnswers 79 = .ok (.istore_n 2, 1) := by decide +kernel
theorem dX6_bestFromAnswers_80 : decode cX6_bestFromAnswers 80 = .ok (.iload 7, 2) := by decide +kernel
theorem dX6_bestFromAnswers_82 : decode cX6_bestFromAnswers 82 = .ok (.istore_n 3, 1) := by decide +kernel
theorem dX6_bestFromAnswers_83 : decode cX6_bestFromAnswers 83 = .ok (.iinc 4 1, 3) := by decide +kernel
theorem dX6_bestFromAnswers_86 : decode cX6_bestFromAnswers 86 = .ok (.goto (-79), 3) := by decide +kernel
theorem dX6_bestFromAnswers_89 : decode cX6_bestFromAnswers 89 = .ok (.iload_n 2, 1) := by decide +kernel
theorem dX6_bestFromAnswers_90 : decode cX6_bestFromAnswers 90 = .ok (.ireturn, 1) := by decide +kernel
theorem dX6_bestFromWords_0 : decode cX6_bestFromWords 0 = .ok (.aload_n 0, 1) := by decide +kernel
theorem dX6_bestFromWords_1 : decode cX6_bestFromWords 1 = .ok (.aload_n 1, 1) := by decide +kernel
theorem dX6_bestFromWords_2 : decode cX6_bestFromWords 2 = .ok (.getfield 374, 3) := by decide +kernel
theorem dX6_bestFromWords_5 : decode cX6_bestFromWords 5 = .ok (.invokevirtual 404, 3) := by decide +kernel
theorem dX6_bestFromWords_8 : decode cX6_bestFromWords 8 = .ok (.iconst (-1), 1) := by decide +kernel
theorem dX6_bestFromWords_9 : decode cX6_bestFromWords 9 = .ok (.istore_n 2, 1) := by decide +kernel
theorem dX6_bestFromWords_10 : decode cX6_bestFromWords 10 = .ok (.iconst 0, 1) := by decide +kernel
theorem dX6_bestFromWords_11 : decode cX6_bestFromWords 11 = .ok (.istore_n 3, 1) := by decide +kernel
theorem dX6_bestFromWords_12 : decode cX6_bestFromWords 12 = .ok (.iconst 0, 1) := by decide +kernel
theorem dX6_bestFromWords_13 : decode cX6_bestFromWords 13 = .ok (.istore 4, 2) := by decide +kernel
theorem dX6_bestFromWords_15 : decode cX6_bestFromWords 15 = .ok (.iload 4, 2) := by decide +kernel
theorem dX6_bestFromWords_17 : decode cX6_bestFromWords 17 = .ok (.aload_n 0, 1) := by decide +kernel
theorem dX6_bestFromWords_18 : decode cX6_bestFromWords 18 = .ok (.getfield 42, 3) := by decide +kernel
theorem dX6_bestFromWords_21 : decode cX6_bestFromWords 21 = .ok (.invokevirtual 62, 3) := by decide +kernel
theorem dX6_bestFromWords_24 : decode cX6_bestFromWords 24 = .ok (.if_icmp .ge 71, 3) := by decide +kernel
theorem dX6_bestFromWords_27 : decode cX6_bestFromWords 27 = .ok (.iload 4, 2) := by decide +kernel
theorem dX6_bestFromWords_29 : decode cX6_bestFromWords 29 = .ok (.aload_n 0, 1) := by decide +kernel
theorem dX6_bestFromWords_30 : decode cX6_bestFromWords 30 = .ok (.getfield 48, 3) := by decide +kernel
theorem dX6_bestFromWords_33 : decode cX6_bestFromWords 33 = .ok (.arraylength, 1) := by decide +kernel
theorem dX6_bestFromWords_34 : decode cX6_bestFromWords 34 = .ok (.if_icmp .ge 61, 3) := by decide +kernel
theorem dX6_bestFromWords_37 : decode cX6_bestFromWords 37 = .ok (.aload_n 0, 1) := by decide +kernel
theorem dX6_bestFromWords_38 : decode cX6_bestFromWords 38 = .ok (.getfield 48, 3) := by decide +kernel
theorem dX6_bestFromWords_41 : decode cX6_bestFromWords 41 = .ok (.iload 4, 2) := by decide +kernel
theorem dX6_bestFromWords_43 : decode cX6_bestFromWords 43 = .ok (.iaload, 1) := by decide +kernel
theorem dX6_bestFromWords_44 : decode cX6_bestFromWords 44 = .ok (.aload_n 0, 1) := by decide +kernel
theorem dX6_bestFromWords_45 : decode cX6_bestFromWords 45 = .ok (.getfield 42, 3) := by decide +kernel
theorem dX6_bestFromWords_48 : decode cX6_bestFromWords 48 = .ok (.iload 4, 2) := by decide +kernel
theorem dX6_bestFromWords_50 : decode cX6_bestFromWords 50 = .ok (.invokevirtual 66, 3) := by decide +kernel
theorem dX6_bestFromWords_53 : decode cX6_bestFromWords 53 = .ok (.checkcast 275, 3) := by decide +kernel
theorem dX6_bestFromWords_56 : decode cX6_bestFromWords 56 = .ok (.getfield 313, 3) := by decide +kernel
theorem dX6_bestFromWords_59 : decode cX6_bestFromWords 59 = .ok (.aload_n 1, 1) := by decide +kernel
theorem dX6_bestFromWords_60 : decode cX6_bestFromWords 60 = .ok (.getfield 170, 3) := by decide +kernel
theorem dX6_bestFromWords_63 : decode cX6_bestFromWords 63 = .ok (.iaload, 1) := by decide +kernel
theorem dX6_bestFromWords_64 : decode cX6_bestFromWords 64 = .ok (.iadd, 1) := by decide +kernel
theorem dX6_bestFromWords_65 : decode cX6_bestFromWords 65 = .ok (.istore 5, 2) := by decide +kernel
theorem dX6_bestFromWords_67 : decode cX6_bestFromWords 67 = .ok (.aload_n 0, 1) := by decide +kernel
theorem dX6_bestFromWords_68 : decode cX6_bestFromWords 68 = .ok (.getfield 48, 3) := by decide +kernel
theorem dX6_bestFromWords_71 : decode cX6_bestFromWords 71 = .ok (.iload 4, 2) := by decide +kernel
theorem dX6_bestFromWords_73 : decode cX6_bestFromWords 73 = .ok (.iaload, 1) := by decide +kernel
theorem dX6_bestFromWords_74 : decode cX6_bestFromWords 74 = .ok (.ifCond .le 15, 3) := by decide +kernel
theorem dX6_bestFromWords_77 : decode cX6_bestFromWords 77 = .ok (.iload 5, 2) := by decide +kernel
theorem dX6_bestFromWords_79 : decode cX6_bestFromWords 79 = .ok (.iload_n 3, 1) := by decide +kernel
theorem dX6_bestFromWords_80 : decode cX6_bestFromWords 80 = .ok (.if_icmp .le 9, 3) := by decide +kernel
theorem dX6_bestFromWords_83 : decode cX6_bestFromWords 83 = .ok (.iload 4, 2) := by decide +kernel
theorem dX6_bestFromWords_85 : decode cX6_bestFromWords 85 = .ok (.istore_n 2, 1) := by decide +kernel
theorem dX6_bestFromWords_86 : decode cX6_bestFromWords 86 = .ok (.iload 5, 2) := by decide +kernel
theorem dX6_bestFromWords_88 : decode cX6_bestFromWords 88 = .ok (.istore_n 3, 1) := by decide +kernel
theorem dX6_bestFromWords_89 : decode cX6_bestFromWords 89 = .ok (.iinc 4 1, 3) := by decide +kernel
theorem dX6_bestFromWords_92 : decode cX6_bestFromWords 92 = .ok (.goto (-77), 3) := by decide +kernel
theorem dX6_bestFromWords_95 : decode cX6_bestFromWords 95 = .ok (.iload_n 2, 1) := by decide +kernel
theorem dX6_bestFromWords_96 : decode cX6_bestFromWords 96 = .ok (.ireturn, 1) := by decide +kernel
theorem dX6_scoreWords_0 : decode cX6_scoreWords 0 = .ok (.aload_n 0, 1) := by decide +kernel
theorem dX6_scoreWords_1 : decode cX6_scoreWords 1 = .ok (.getfield 48, 3) := by decide +kernel
theorem dX6_scoreWords_4 : decode cX6_scoreWords 4 = .ok (.iconst 0, 1) := by decide +kernel
theorem dX6_scoreWords_5 : decode cX6_scoreWords 5 = .ok (.invokestatic 407, 3) := by decide +kernel
theorem dX6_scoreWords_8 : decode cX6_scoreWords 8 = .ok (.iconst 0, 1) := by decide +kernel
theorem dX6_scoreWords_9 : decode cX6_scoreWords 9 = .ok (.istore_n 2, 1) := by decide +kernel
theorem dX6_scoreWords_10 : decode cX6_scoreWords 10 = .ok (.iload_n 2, 1) := by decide +kernel
theorem dX6_scoreWords_11 : decode cX6_scoreWords 11 = .ok (.bipush 10, 2) := by decide +kernel
theorem dX6_scoreWords_13 : decode cX6_scoreWords 13 = .ok (.if_icmp .ge 23, 3) := by decide +kernel
theorem dX6_scoreWords_16 : decode cX6_scoreWords 16 = .ok (.iload_n 1, 1) := by decide +kernel
theorem dX6_scoreWords_17 : decode cX6_scoreWords 17 = .ok (.iload_n 2, 1) := by decide +kernel
theorem dX6_scoreWords_18 : decode cX6_scoreWords 18 = .ok (.ishr, 1) := by decide +kernel
theorem dX6_scoreWords_19 : decode cX6_scoreWords 19 = .ok (.iconst 1, 1) := by decide +kernel
theorem dX6_scoreWords_20 : decode cX6_scoreWords 20 = .ok (.iand, 1) := by decide +kernel
theorem dX6_scoreWords_21 : decode cX6_scoreWords 21 = .ok (.iconst 1, 1) := by decide +kernel
theorem dX6_scoreWords_22 : decode cX6_scoreWords 22 = .ok (.if_icmp .ne 8, 3) := by decide +kernel
theorem dX6_scoreWords_25 : decode cX6_scoreWords 25 = .ok (.aload_n 0, 1) := by decide +kernel
theorem dX6_scoreWords_26 : decode cX6_scoreWords 26 = .ok (.iload_n 2, 1) := by decide +kernel
theorem dX6_scoreWords_27 : decode cX6_scoreWords 27 = .ok (.invokevirtual 413, 3) := by decide +kernel
theorem dX6_scoreWords_30 : decode cX6_scoreWords 30 = .ok (.iinc 2 1, 3) := by decide +kernel
theorem dX6_scoreWords_33 : decode cX6_scoreWords 33 = .ok (.goto (-23), 3) := by decide +kernel
theorem dX6_scoreWords_36 : decode cX6_scoreWords 36 = .ok (.return_, 1) := by decide +kernel
theorem dX6_scoreWord_0 : decode cX6_scoreWord 0 = .ok (.iconst 0, 1) := by decide +kernel
theorem dX6_scoreWord_1 : decode cX6_scoreWord 1 = .ok (.istore_n 2, 1) := by decide +kernel
theorem dX6_scoreWord_2 : decode cX6_scoreWord 2 = .ok (.iload_n 2, 1) := by decide +kernel
theorem dX6_scoreWord_3 : decode cX6_scoreWord 3 = .ok (.aload_n 0, 1) := by decide +kernel
theorem dX6_scoreWord_4 : decode cX6_scoreWord 4 = .ok (.getfield 48, 3) := by decide +kernel
theorem dX6_scoreWord_7 : decode cX6_scoreWord 7 = .ok (.arraylength, 1) := by decide +kernel
theorem dX6_scoreWord_8 : decode cX6_scoreWord 8 = .ok (.if_icmp .ge 34, 3) := by decide +kernel
theorem dX6_scoreWord_11 : decode cX6_scoreWord 11 = .ok (.aload_n 0, 1) := by decide +kernel
theorem dX6_scoreWord_12 : decode cX6_scoreWord 12 = .ok (.getfield 45, 3) := by decide +kernel
theorem dX6_scoreWord_15 : decode cX6_scoreWord 15 = .ok (.iload_n 1, 1) := by decide +kernel
theorem dX6_scoreWord_16 : decode cX6_scoreWord 16 = .ok (.iaload, 1) := by decide +kernel
theorem dX6_scoreWord_17 : decode cX6_scoreWord 17 = .ok (.iload_n 2, 1) := by decide +kernel
theorem dX6_scoreWord_18 : decode cX6_scoreWord 18 = .ok (.ishr, 1) := by decide +kernel
theorem dX6_scoreWord_19 : decode cX6_scoreWord 19 = .ok (.iconst 1, 1) := by decide +kernel
theorem dX6_scoreWord_20 : decode cX6_scoreWord 20 = .ok (.iand, 1) := by decide +kernel
theorem dX6_scoreWord_21 : decode cX6_scoreWord 21 = .ok (.iconst 1, 1) := by decide +kernel
theorem dX6_scoreWord_22 : decode cX6_scoreWord 22 = .ok (.if_icmp .ne 14, 3) := by decide +kernel
theorem dX6_scoreWord_25 : decode cX6_scoreWord 25 = .ok (.aload_n 0, 1) := by decide +kernel
theorem dX6_scoreWord_26 : decode cX6_scoreWord 26 = .ok (.getfield 48, 3) := by decide +kernel
theorem dX6_scoreWord_29 : decode cX6_scoreWord 29 = .ok (.iload_n 2, 1) := by decide +kernel
theorem dX6_scoreWord_30 : decode cX6_scoreWord 30 = .ok (.dup2, 1) := by decide +kernel
theorem dX6_scoreWord_31 : decode cX6_scoreWord 31 = .ok (.iaload, 1) := by decide +kernel
theorem dX6_scoreWord_32 : decode cX6_scoreWord 32 = .ok (.bipush 10, 2) := by decide +kernel
theorem dX6_scoreWord_34 : decode cX6_scoreWord 34 = .ok (.iadd, 1) := by decide +kernel
theorem dX6_scoreWord_35 : decode cX6_scoreWord 35 = .ok (.iastore, 1) := by decide +kernel
theorem dX6_scoreWord_36 : decode cX6_scoreWord 36 = .ok (.iinc 2 1, 3) := by decide +kernel
theorem dX6_scoreWord_39 : decode cX6_scoreWord 39 = .ok (.goto (-37), 3) := by decide +kernel
theorem dX6_scoreWord_42 : decode cX6_scoreWord 42 = .ok (.return_, 1) := by decide +kernel
theorem dX6_countAnswer_0 : decode cX6_countAnswer 0 = .ok (.aload_n 0, 1) := by decide +kernel
theorem dX6_countAnswer_1 : decode cX6_countAnswer 1 = .ok (.dup, 1) := by decide +kernel
theorem dX6_countAnswer_2 : decode cX6_countAnswer 2 = .ok (.getfield 325, 3) := by decide +kernel
theorem dX6_countAnswer_5 : decode cX6_countAnswer 5 = .ok (.iconst 1, 1) := by decide +kernel
theorem dX6_countAnswer_6 : decode cX6_countAnswer 6 = .ok (.iadd, 1) := by decide +kernel
theorem dX6_countAnswer_7 : decode cX6_countAnswer 7 = .ok (.putfield 325, 3) := by decide +kernel
theorem dX6_countAnswer_10 : decode cX6_countAnswer 10 = .ok (.aload_n 0, 1) := by decide +kernel
theorem dX6_countAnswer_11 : decode cX6_countAnswer 11 = .ok (.dup, 1) := by decide +kernel
theorem dX6_countAnswer_12 : decode cX6_countAnswer 12 = .ok (.getfield 336, 3) := by decide +kernel
theorem dX6_countAnswer_15 : decode cX6_countAnswer 15 = .ok (.aload_n 1, 1) := by decide +kernel
theorem dX6_countAnswer_16 : decode cX6_countAnswer 16 = .ok (.getfield 185, 3) := by decide +kernel
theorem dX6_countAnswer_19 : decode cX6_countAnswer 19 = .ok (.i2l, 1) := by decide +kernel
theorem dX6_countAnswer_20 : decode cX6_countAnswer 20 = .ok (.ladd, 1) := by decide +kernel
theorem dX6_countAnswer_21 : decode cX6_countAnswer 21 = .ok (.putfield 336, 3) := by decide +kernel
theorem dX6_countAnswer_24 : decode cX6_countAnswer 24 = .ok (.aload_n 1, 1) := by decide +kernel
theorem dX6_countAnswer_25 : decode cX6_countAnswer 25 = .ok (.getfield 195, 3) := by decide +kernel
theorem dX6_countAnswer_28 : decode cX6_countAnswer 28 = .ok (.ifCond .ne 13, 3) := by decide +kernel
theorem dX6_countAnswer_31 : decode cX6_countAnswer 31 = .ok (.aload_n 0, 1) := by decide +kernel
theorem dX6_countAnswer_32 : decode cX6_countAnswer 32 = .ok (.dup, 1) := by decide +kernel
theorem dX6_countAnswer_33 : decode cX6_countAnswer 33 = .ok (.getfield 333, 3) := by decide +kernel
theorem dX6_countAnswer_36 : decode cX6_countAnswer 36 = .ok (.iconst 1, 1) := by decide +kernel
theorem dX6_countAnswer_37 : decode cX6_countAnswer 37 = .ok (.iadd, 1) := by decide +kernel
theorem dX6_countAnswer_38 : decode cX6_countAnswer 38 = .ok (.putfield 333, 3) := by decide +kernel
theorem dX6_countAnswer_41 : decode cX6_countAnswer 41 = .ok (.return_, 1) := by decide +kernel
theorem dX6_closedTickets_0 : decode cX6_closedTickets 0 = .ok (.iconst 0, 1) := by decide +kernel
theorem dX6_closedTickets_1 : decode cX6_closedTickets 1 = .ok (.istore_n 1, 1) := by decide +kernel
theorem dX6_closedTickets_2 : decode cX6_closedTickets 2 = .ok (.iconst 0, 1) := by decide +kernel
theorem dX6_closedTickets_3 : decode cX6_closedTickets 3 = .ok (.istore_n 2, 1) := by decide +kernel
theorem dX6_closedTickets_4 : decode cX6_closedTickets 4 = .ok (.iload_n 2, 1) := by decide +kernel
theorem dX6_closedTickets_5 : decode cX6_closedTickets 5 = .ok (.aload_n 0, 1) := by decide +kernel
theorem dX6_closedTickets_6 : decode cX6_closedTickets 6 = .ok (.getfield 36, 3) := by decide +kernel
theorem dX6_closedTickets_9 : decode cX6_closedTickets 9 = .ok (.invokevirtual 62, 3) := by decide +kernel
theorem dX6_closedTickets_12 : decode cX6_closedTickets 12 = .ok (.if_icmp .ge 31, 3) := by decide +kernel
theorem dX6_closedTickets_15 : decode cX6_closedTickets 15 = .ok (.aload_n 0, 1) := by decide +kernel
theorem dX6_closedTickets_16 : decode cX6_closedTickets 16 = .ok (.getfield 36, 3) := by decide +kernel
theorem dX6_closedTickets_19 : decode cX6_closedTickets 19 = .ok (.iload_n 2, 1) := by decide +kernel
theorem dX6_closedTickets_20 : decode cX6_closedTickets 20 = .ok (.invokevirtual 66, 3) := by decide +kernel
theorem dX6_closedTickets_23 : decode cX6_closedTickets 23 = .ok (.checkcast 70, 3) := by decide +kernel
theorem dX6_closedTickets_26 : decode cX6_closedTickets 26 = .ok (.getfield 72, 3) := by decide +kernel
theorem dX6_closedTickets_29 : decode cX6_closedTickets 29 = .ok (.bipush 99, 2) := by decide +kernel
theorem dX6_closedTickets_31 : decode cX6_closedTickets 31 = .ok (.if_icmp .ne 6, 3) := by decide +kernel
theorem dX6_closedTickets_34 : decode cX6_closedTickets 34 = .ok (.iinc 1 1, 3) := by decide +kernel
theorem dX6_closedTickets_37 : decode cX6_closedTickets 37 = .ok (.iinc 2 1, 3) := by decide +kernel
theorem dX6_closedTickets_40 : decode cX6_closedTickets 40 = .ok (.goto (-36), 3) := by decide +kernel
theorem dX6_closedTickets_43 : decode cX6_closedTickets 43 = .ok (.iload_n 1, 1) := by decide +kernel
theorem dX6_closedTickets_44 : decode cX6_closedTickets 44 = .ok (.ireturn, 1) := by decide +kernel
theorem dX6_hasEachMailOnce_0 : decode cX6_hasEachMailOnce 0 = .ok (.iconst 0, 1) := by decide +kernel
theorem dX6_hasEachMailOnce_1 : decode cX6_hasEachMailOnce 1 = .ok (.istore_n 1, 1) := by decide +kernel
theorem dX6_hasEachMailOnce_2 : decode cX6_hasEachMailOnce 2 = .ok (.iconst 0, 1) := by decide +kernel
theorem dX6_hasEachMailOnce_3 : decode cX6_hasEachMailOnce 3 = .ok (.istore_n 2, 1) := by decide +kernel
theorem dX6_hasEachMailOnce_4 : decode cX6_hasEachMailOnce 4 = .ok (.iload_n 2, 1) := by decide +kernel
theorem dX6_hasEachMailOnce_5 : decode cX6_hasEachMailOnce 5 = .ok (.aload_n 0, 1) := by decide +kernel
theorem dX6_hasEachMailOnce_6 : decode cX6_hasEachMailOnce 6 = .ok (.getfield 36, 3) := by decide +kernel
theorem dX6_hasEachMailOnce_9 : decode cX6_hasEachMailOnce 9 = .ok (.invokevirtual 62, 3) := by decide +kernel
theorem dX6_hasEachMailOnce_12 : decode cX6_hasEachMailOnce 12 = .ok (.if_icmp .ge 49, 3) := by decide +kernel
theorem dX6_hasEachMailOnce_15 : decode cX6_hasEachMailOnce 15 = .ok (.aload_n 0, 1) := by decide +kernel
theorem dX6_hasEachMailOnce_16 : decode cX6_hasEachMailOnce 16 = .ok (.getfield 36, 3) := by decide +kernel
theorem dX6_hasEachMailOnce_19 : decode cX6_hasEachMailOnce 19 = .ok (.iload_n 2, 1) := by decide +kernel
theorem dX6_hasEachMailOnce_20 : decode cX6_hasEachMailOnce 20 = .ok (.invokevirtual 66, 3) := by decide +kernel
theorem dX6_hasEachMailOnce_23 : decode cX6_hasEachMailOnce 23 = .ok (.checkcast 70, 3) := by decide +kernel
theorem dX6_hasEachMailOnce_26 : decode cX6_hasEachMailOnce 26 = .ok (.astore_n 3, 1) := by decide +kernel
theorem dX6_hasEachMailOnce_27 : decode cX6_hasEachMailOnce 27 = .ok (.aload_n 3, 1) := by decide +kernel
theorem dX6_hasEachMailOnce_28 : decode cX6_hasEachMailOnce 28 = .ok (.getfield 72, 3) := by decide +kernel
theorem dX6_hasEachMailOnce_31 : decode cX6_hasEachMailOnce 31 = .ok (.bipush 109, 2) := by decide +kernel
theorem dX6_hasEachMailOnce_33 : decode cX6_hasEachMailOnce 33 = .ok (.if_icmp .eq 22, 3) := by decide +kernel
theorem dX6_hasEachMailOnce_36 : decode cX6_hasEachMailOnce 36 = .ok (.aload_n 3, 1) := by decide +kernel
theorem dX6_hasEachMailOnce_37 : decode cX6_hasEachMailOnce 37 = .ok (.invokevirtual 416, 3) := by decide +kernel
theorem dX6_hasEachMailOnce_40 : decode cX6_hasEachMailOnce 40 = .ok (.ifCond .ne 5, 3) := by decide +kernel
theorem dX6_hasEachMailOnce_43 : decode cX6_hasEachMailOnce 43 = .ok (.iconst 0, 1) := by decide +kernel
theorem dX6_hasEachMailOnce_44 : decode cX6_hasEachMailOnce 44 = .ok (.ireturn, 1) := by decide +kernel
theorem dX6_hasEachMailOnce_45 : decode cX6_hasEachMailOnce 45 = .ok (.iload_n 1, 1) := by decide +kernel
theorem dX6_hasEachMailOnce_46 : decode cX6_hasEachMailOnce 46 = .ok (.aload_n 3, 1) := by decide +kernel
theorem dX6_hasEachMailOnce_47 : decode cX6_hasEachMailOnce 47 = .ok (.getfield 156, 3) := by decide +kernel
theorem dX6_hasEachMailOnce_50 : decode cX6_hasEachMailOnce 50 = .ok (.invokevirtual 62, 3) := by decide +kernel
theorem dX6_hasEachMailOnce_53 : decode cX6_hasEachMailOnce 53 = .ok (.iadd, 1) := by decide +kernel
theorem dX6_hasEachMailOnce_54 : decode cX6_hasEachMailOnce 54 = .ok (.istore_n 1, 1) := by decide +kernel
theorem dX6_hasEachMailOnce_55 : decode cX6_hasEachMailOnce 55 = .ok (.iinc 2 1, 3) := by decide +kernel
theorem dX6_hasEachMailOnce_58 : decode cX6_hasEachMailOnce 58 = .ok (.goto (-54), 3) := by decide +kernel
theorem dX6_hasEachMailOnce_61 : decode cX6_hasEachMailOnce 61 = .ok (.iload_n 1, 1) := by decide +kernel
theorem dX6_hasEachMailOnce_62 : decode cX6_hasEachMailOnce 62 = .ok (.aload_n 0, 1) := by decide +kernel
theorem dX6_hasEachMailOnce_63 : decode cX6_hasEachMailOnce 63 = .ok (.getfield 32, 3) := by decide +kernel
theorem dX6_hasEachMailOnce_66 : decode cX6_hasEachMailOnce 66 = .ok (.invokevirtual 62, 3) := by decide +kernel
theorem dX6_hasEachMailOnce_69 : decode cX6_hasEachMailOnce 69 = .ok (.if_icmp .ne 7, 3) := by decide +kernel
theorem dX6_hasEachMailOnce_72 : decode cX6_hasEachMailOnce 72 = .ok (.iconst 1, 1) := by decide +kernel
theorem dX6_hasEachMailOnce_73 : decode cX6_hasEachMailOnce 73 = .ok (.goto 4, 3) := by decide +kernel
theorem dX6_hasEachMailOnce_76 : decode cX6_hasEachMailOnce 76 = .ok (.iconst 0, 1) := by decide +kernel
theorem dX6_hasEachMailOnce_77 : decode cX6_hasEachMailOnce 77 = .ok (.ireturn, 1) := by decide +kernel
theorem dX6_agreesOnNextTickets_0 : decode cX6_agreesOnNextTickets 0 = .ok (.iconst 0, 1) := by decide +kernel
theorem dX6_agreesOnNextTickets_1 : decode cX6_agreesOnNextTickets 1 = .ok (.istore_n 1, 1) := by decide +kernel
theorem dX6_agreesOnNextTickets_2 : decode cX6_agreesOnNextTickets 2 = .ok (.iload_n 1, 1) := by decide +kernel
theorem dX6_agreesOnNextTickets_3 : decode cX6_agreesOnNextTickets 3 = .ok (.aload_n 0, 1) := by decide +kernel
theorem dX6_agreesOnNextTickets_4 : decode cX6_agreesOnNextTickets 4 = .ok (.getfield 39, 3) := by decide +kernel
theorem dX6_agreesOnNextTickets_7 : decode cX6_agreesOnNextTickets 7 = .ok (.invokevirtual 62, 3) := by decide +kernel
theorem dX6_agreesOnNextTickets_10 : decode cX6_agreesOnNextTickets 10 = .ok (.if_icmp .ge 44, 3) := by decide +kernel
theorem dX6_agreesOnNextTickets_13 : decode cX6_agreesOnNextTickets 13 = .ok (.aload_n 0, 1) := by decide +kernel
theorem dX6_agreesOnNextTickets_14 : decode cX6_agreesOnNextTickets 14 = .ok (.aload_n 0, 1) := by decide +kernel
theorem dX6_agreesOnNextTickets_15 : decode cX6_agreesOnNextTickets 15 = .ok (.getfield 39, 3) := by decide +kernel
theorem dX6_agreesOnNextTickets_18 : decode cX6_agreesOnNextTickets 18 = .ok (.iload_n 1, 1) := by decide +kernel
theorem dX6_agreesOnNextTickets_19 : decode cX6_agreesOnNextTickets 19 = .ok (.invokevirtual 66, 3) := by decide +kernel
theorem dX6_agreesOnNextTickets_22 : decode cX6_agreesOnNextTickets 22 = .ok (.checkcast 178, 3) := by decide +kernel
theorem dX6_agreesOnNextTickets_25 : decode cX6_agreesOnNextTickets 25 = .ok (.invokevirtual 237, 3) := by decide +kernel
theorem dX6_agreesOnNextTickets_28 : decode cX6_agreesOnNextTickets 28 = .ok (.aload_n 0, 1) := by decide +kernel
theorem dX6_agreesOnNextTickets_29 : decode cX6_agreesOnNextTickets 29 = .ok (.aload_n 0, 1) := by decide +kernel
theorem dX6_agreesOnNextTickets_30 : decode cX6_agreesOnNextTickets 30 = .ok (.getfield 39, 3) := by decide +kernel
theorem dX6_agreesOnNextTickets_33 : decode cX6_agreesOnNextTickets 33 = .ok (.iload_n 1, 1) := by decide +kernel
theorem dX6_agreesOnNextTickets_34 : decode cX6_agreesOnNextTickets 34 = .ok (.invokevirtual 66, 3) := by decide +kernel
theorem dX6_agreesOnNextTickets_37 : decode cX6_agreesOnNextTickets 37 = .ok (.checkcast 178, 3) := by decide +kernel
theorem dX6_agreesOnNextTickets_40 : decode cX6_agreesOnNextTickets 40 = .ok (.invokevirtual 243, 3) := by decide +kernel
theorem dX6_agreesOnNextTickets_43 : decode cX6_agreesOnNextTickets 43 = .ok (.if_acmp .eq 5, 3) := by decide +kernel
theorem dX6_agreesOnNextTickets_46 : decode cX6_agreesOnNextTickets 46 = .ok (.iconst 0, 1) := by decide +kernel
theorem dX6_agreesOnNextTickets_47 : decode cX6_agreesOnNextTickets 47 = .ok (.ireturn, 1) := by decide +kernel
theorem dX6_agreesOnNextTickets_48 : decode cX6_agreesOnNextTickets 48 = .ok (.iinc 1 1, 3) := by decide +kernel
theorem dX6_agreesOnNextTickets_51 : decode cX6_agreesOnNextTickets 51 = .ok (.goto (-49), 3) := by decide +kernel
theorem dX6_agreesOnNextTickets_54 : decode cX6_agreesOnNextTickets 54 = .ok (.iconst 1, 1) := by decide +kernel
theorem dX6_agreesOnNextTickets_55 : decode cX6_agreesOnNextTickets 55 = .ok (.ireturn, 1) := by decide +kernel
end
section
theorem dX7_init_0 : decode cX7_init 0 = .ok (.aload_n 0, 1) := by decide +kernel
theorem dX7_init_1 : decode cX7_init 1 = .ok (.invokespecial 1, 3) := by decide +kernel
theorem dX7_init_4 : decode cX7_init 4 = .ok (.aload_n 0, 1) := by decide +kernel
theorem dX7_init_5 : decode cX7_init 5 = .ok (.bipush 8, 2) := by decide +kernel
theorem dX7_init_7 : decode cX7_init 7 = .ok (.newarray .int, 2) := by decide +kernel
theorem dX7_init_9 : decode cX7_init 9 = .ok (.putfield 7, 3) := by decide +kernel
theorem dX7_init_12 : decode cX7_init 12 = .ok (.aload_n 0, 1) := by decide +kernel
theorem dX7_init_13 : decode cX7_init 13 = .ok (.iconst 3, 1) := by decide +kernel
theorem dX7_init_14 : decode cX7_init 14 = .ok (.newarray .int, 2) := by decide +kernel
theorem dX7_init_16 : decode cX7_init 16 = .ok (.putfield 13, 3) := by decide +kernel
theorem dX7_init_19 : decode cX7_init 19 = .ok (.aload_n 0, 1) := by decide +kernel
theorem dX7_init_20 : decode cX7_init 20 = .ok (.bipush 80, 2) := by decide +kernel
theorem dX7_init_22 : decode cX7_init 22 = .ok (.newarray .int, 2) := by decide +kernel
theorem dX7_init_24 : decode cX7_init 24 = .ok (.putfield 16, 3) := by decide +kernel
theorem dX7_init_27 : decode cX7_init 27 = .ok (.aload_n 0, 1) := by decide +kernel
theorem dX7_init_28 : decode cX7_init 28 = .ok (.bipush 80, 2) := by decide +kernel
theorem dX7_init_30 : decode cX7_init 30 = .ok (.newarray .int, 2) := by decide +kernel
theorem dX7_init_32 : decode cX7_init 32 = .ok (.putfield 19, 3) := by decide +kernel
theorem dX7_init_35 : decode cX7_init 35 = .ok (.aload_n 0, 1) := by decide +kernel
theorem dX7_init_36 : decode cX7_init 36 = .ok (.bipush 40, 2) := by decide +kernel
theorem dX7_init_38 : decode cX7_init 38 = .ok (.newarray .int, 2) := by decide +kernel
theorem dX7_init_40 : decode cX7_init 40 = .ok (.putfield 22, 3) := by decide +kernel
theorem dX7_init_43 : decode cX7_init 43 = .ok (.aload_n 0, 1) := by decide +kernel
theorem dX7_init_44 : decode cX7_init 44 = .ok (.bipush 40, 2) := by decide +kernel
theorem dX7_init_46 : decode cX7_init 46 = .ok (.newarray .int, 2) := by decide +kernel
theorem dX7_init_48 : decode cX7_init 48 = .ok (.putfield 25, 3) := by decide +kernel
theorem dX7_init_51 : decode cX7_init 51 = .ok (.aload_n 0, 1) := by decide +kernel
theorem dX7_init_52 : decode cX7_init 52 = .ok (.bipush 40, 2) := by decide +kernel
theorem dX7_init_54 : decode cX7_init 54 = .ok (.newarray .int, 2) := by decide +kernel
theorem dX7_init_56 : decode cX7_init 56 = .ok (.putfield 28, 3) := by decide +kernel
theorem dX7_init_59 : decode cX7_init 59 = .ok (.aload_n 0, 1) := by decide +kernel
theorem dX7_init_60 : decode cX7_init 60 = .ok (.bipush 40, 2) := by decide +kernel
theorem dX7_init_62 : decode cX7_init 62 = .ok (.newarray .int, 2) := by decide +kernel
theorem dX7_init_64 : decode cX7_init 64 = .ok (.putfield 31, 3) := by decide +kernel
theorem dX7_init_67 : decode cX7_init 67 = .ok (.aload_n 0, 1) := by decide +kernel
theorem dX7_init_68 : decode cX7_init 68 = .ok (.bipush 40, 2) := by decide +kernel
theorem dX7_init_70 : decode cX7_init 70 = .ok (.newarray .int, 2) := by decide +kernel
theorem dX7_init_72 : decode cX7_init 72 = .ok (.putfield 34, 3) := by decide +kernel
theorem dX7_init_75 : decode cX7_init 75 = .ok (.aload_n 0, 1) := by decide +kernel
theorem dX7_init_76 : decode cX7_init 76 = .ok (.bipush 40, 2) := by decide +kernel
theorem dX7_init_78 : decode cX7_init 78 = .ok (.newarray .int, 2) := by decide +kernel
theorem dX7_init_80 : decode cX7_init 80 = .ok (.putfield 37, 3) := by decide +kernel
theorem dX7_init_83 : decode cX7_init 83 = .ok (.aload_n 0, 1) := by decide +kernel
theorem dX7_init_84 : decode cX7_init 84 = .ok (.bipush 40, 2) := by decide +kernel
theorem dX7_init_86 : decode cX7_init 86 = .ok (.newarray .int, 2) := by decide +kernel
theorem dX7_init_88 : decode cX7_init 88 = .ok (.putfield 40, 3) := by decide +kernel
theorem dX7_init_91 : decode cX7_init 91 = .ok (.aload_n 0, 1) := by decide +kernel
theorem dX7_init_92 : decode cX7_init 92 = .ok (.bipush 40, 2) := by decide +kernel
theorem dX7_init_94 : decode cX7_init 94 = .ok (.newarray .int, 2) := by decide +kernel
theorem dX7_init_96 : decode cX7_init 96 = .ok (.putfield 43, 3) := by decide +kernel
theorem dX7_init_99 : decode cX7_init 99 = .ok (.aload_n 0, 1) := by decide +kernel
theorem dX7_init_100 : decode cX7_init 100 = .ok (.bipush 40, 2) := by decide +kernel
theorem dX7_init_102 : decode cX7_init 102 = .ok (.newarray .int, 2) := by decide +kernel
theorem dX7_init_104 : decode cX7_init 104 = .ok (.putfield 46, 3) := by decide +kernel
theorem dX7_init_107 : decode cX7_init 107 = .ok (.aload_n 0, 1) := by decide +kernel
theorem dX7_init_108 : decode cX7_init 108 = .ok (.bipush 40, 2) := by decide +kernel
theorem dX7_init_110 : decode cX7_init 110 = .ok (.newarray .char, 2) := by decide +kernel
theorem dX7_init_112 : decode cX7_init 112 = .ok (.putfield 49, 3) := by decide +kernel
theorem dX7_init_115 : decode cX7_init 115 = .ok (.aload_n 0, 1) := by decide +kernel
theorem dX7_init_116 : decode cX7_init 116 = .ok (.bipush 40, 2) := by decide +kernel
theorem dX7_init_118 : decode cX7_init 118 = .ok (.newarray .boolean, 2) := by decide +kernel
theorem dX7_init_120 : decode cX7_init 120 = .ok (.putfield 53, 3) := by decide +kernel
theorem dX7_init_123 : decode cX7_init 123 = .ok (.aload_n 0, 1) := by decide +kernel
theorem dX7_init_124 : decode cX7_init 124 = .ok (.bipush 6, 2) := by decide +kernel
theorem dX7_init_126 : decode cX7_init 126 = .ok (.newarray .boolean, 2) := by decide +kernel
theorem dX7_init_128 : decode cX7_init 128 = .ok (.putfield 57, 3) := by decide +kernel
theorem dX7_init_131 : decode cX7_init 131 = .ok (.aload_n 0, 1) := by decide +kernel
theorem dX7_init_132 : decode cX7_init 132 = .ok (.bipush 6, 2) := by decide +kernel
theorem dX7_init_134 : decode cX7_init 134 = .ok (.newarray .int, 2) := by decide +kernel
theorem dX7_init_136 : decode cX7_init 136 = .ok (.putfield 60, 3) := by decide +kernel
theorem dX7_init_139 : decode cX7_init 139 = .ok (.aload_n 0, 1) := by decide +kernel
theorem dX7_init_140 : decode cX7_init 140 = .ok (.bipush 8, 2) := by decide +kernel
theorem dX7_init_142 : decode cX7_init 142 = .ok (.newarray .int, 2) := by decide +kernel
theorem dX7_init_144 : decode cX7_init 144 = .ok (.putfield 63, 3) := by decide +kernel
theorem dX7_init_147 : decode cX7_init 147 = .ok (.aload_n 0, 1) := by decide +kernel
theorem dX7_init_148 : decode cX7_init 148 = .ok (.bipush 48, 2) := by decide +kernel
theorem dX7_init_150 : decode cX7_init 150 = .ok (.newarray .int, 2) := by decide +kernel
theorem dX7_init_152 : decode cX7_init 152 = .ok (.putfield 66, 3) := by decide +kernel
theorem dX7_init_155 : decode cX7_init 155 = .ok (.aload_n 0, 1) := by decide +kernel
theorem dX7_init_156 : decode cX7_init 156 = .ok (.iconst 0, 1) := by decide +kernel
theorem dX7_init_157 : decode cX7_init 157 = .ok (.putfield 69, 3) := by decide +kernel
theorem dX7_init_160 : decode cX7_init 160 = .ok (.aload_n 0, 1) := by decide +kernel
theorem dX7_init_161 : decode cX7_init 161 = .ok (.iconst 0, 1) := by decide +kernel
theorem dX7_init_162 : decode cX7_init 162 = .ok (.putfield 73, 3) := by decide +kernel
theorem dX7_init_165 : decode cX7_init 165 = .ok (.aload_n 0, 1) := by decide +kernel
theorem dX7_init_166 : decode cX7_init 166 = .ok (.iconst 0, 1) := by decide +kernel
theorem dX7_init_167 : decode cX7_init 167 = .ok (.putfield 76, 3) := by decide +kernel
theorem dX7_init_170 : decode cX7_init 170 = .ok (.aload_n 0, 1) := by decide +kernel
theorem dX7_init_171 : decode cX7_init 171 = .ok (.iconst 0, 1) := by decide +kernel
theorem dX7_init_172 : decode cX7_init 172 = .ok (.putfield 79, 3) := by decide +kernel
theorem dX7_init_175 : decode cX7_init 175 = .ok (.aload_n 0, 1) := by decide +kernel
theorem dX7_init_176 : decode cX7_init 176 = .ok (.iconst 0, 1) := by decide +kernel
theorem dX7_init_177 : decode cX7_init 177 = .ok (.putfield 82, 3) := by decide +kernel
theorem dX7_init_180 : decode cX7_init 180 = .ok (.aload_n 0, 1) := by decide +kernel
theorem dX7_init_181 : decode cX7_init 181 = .ok (.iconst 0, 1) := by decide +kernel
theorem dX7_init_182 : decode cX7_init 182 = .ok (.putfield 85, 3) := by decide +kernel
theorem dX7_init_185 : decode cX7_init 185 = .ok (.aload_n 0, 1) := by decide +kernel
theorem dX7_init_186 : decode cX7_init 186 = .ok (.iconst 0, 1) := by decide +kernel
theorem dX7_init_187 : decode cX7_init 187 = .ok (.putfield 88, 3) := by decide +kernel
theorem dX7_init_190 : decode cX7_init 190 = .ok (.aload_n 0, 1) := by decide +kernel
theorem dX7_init_191 : decode cX7_init 191 = .ok (.iconst 0, 1) := by decide +kernel
theorem dX7_init_192 : decode cX7_init 192 = .ok (.putfield 91, 3) := by decide +kernel
theorem dX7_init_195 : decode cX7_init 195 = .ok (.aload_n 0, 1) := by decide +kernel
theorem dX7_init_196 : decode cX7_init 196 = .ok (.iconst 0, 1) := by decide +kernel
theorem dX7_init_197 : decode cX7_init 197 = .ok (.putfield 94, 3) := by decide +kernel
theorem dX7_init_200 : decode cX7_init 200 = .ok (.aload_n 0, 1) := by decide +kernel
theorem dX7_init_201 : decode cX7_init 201 = .ok (.iconst 0, 1) := by decide +kernel
theorem dX7_init_202 : decode cX7_init 202 = .ok (.putfield 97, 3) := by decide +kernel
theorem dX7_init_205 : decode cX7_init 205 = .ok (.aload_n 0, 1) := by decide +kernel
theorem dX7_init_206 : decode cX7_init 206 = .ok (.lconst 0, 1) := by decide +kernel
theorem dX7_init_207 : decode cX7_init 207 = .ok (.putfield 100, 3) := by decide +kernel
theorem dX7_init_210 : decode cX7_init 210 = .ok (.aload_n 0, 1) := by decide +kernel
theorem dX7_init_211 : decode cX7_init 211 = .ok (.getfield 13, 3) := by decide +kernel
theorem dX7_init_214 : decode cX7_init 214 = .ok (.iconst 0, 1) := by decide +kernel
theorem dX7_init_215 : decode cX7_init 215 = .ok (.sipush 240, 3) := by decide +kernel
theorem dX7_init_218 : decode cX7_init 218 = .ok (.iastore, 1) := by decide +kernel
theorem dX7_init_219 : decode cX7_init 219 = .ok (.aload_n 0, 1) := by decide +kernel
theorem dX7_init_220 : decode cX7_init 220 = .ok (.getfield 13, 3) := by decide +kernel
theorem dX7_init_223 : decode cX7_init 223 = .ok (.iconst 1, 1) := by decide +kernel
theorem dX7_init_224 : decode cX7_init 224 = .ok (.bipush 120, 2) := by decide +kernel
theorem dX7_init_226 : decode cX7_init 226 = .ok (.iastore, 1) := by decide +kernel
theorem dX7_init_227 : decode cX7_init 227 = .ok (.aload_n 0, 1) := by decide +kernel
theorem dX7_init_228 : decode cX7_init 228 = .ok (.getfield 13, 3) := by decide +kernel
theorem dX7_init_231 : decode cX7_init 231 = .ok (.iconst 2, 1) := by decide +kernel
theorem dX7_init_232 : decode cX7_init 232 = .ok (.bipush 30, 2) := by decide +kernel
theorem dX7_init_234 : decode cX7_init 234 = .ok (.iastore, 1) := by decide +kernel
theorem dX7_init_235 : decode cX7_init 235 = .ok (.return_, 1) := by decide +kernel
theorem dX7_thrown_0 : decode cX7_thrown 0 = .ok (.aload_n 0, 1) := by decide +kernel
theorem dX7_thrown_1 : decode cX7_thrown 1 = .ok (.getfield 69, 3) := by decide +kernel
theorem dX7_thrown_4 : decode cX7_thrown 4 = .ok (.ireturn, 1) := by decide +kernel
theorem dX7_in_0 : decode cX7_in 0 = .ok (.iload_n 0, 1) := by decide +kernel
theorem dX7_in_1 : decode cX7_in 1 = .ok (.iload_n 1, 1) := by decide +kernel
theorem dX7_in_2 : decode cX7_in 2 = .ok (.if_icmp .lt 12, 3) := by decide +kernel
theorem dX7_in_5 : decode cX7_in 5 = .ok (.iload_n 0, 1) := by decide +kernel
theorem dX7_in_6 : decode cX7_in 6 = .ok (.iload_n 2, 1) := by decide +kernel
theorem dX7_in_7 : decode cX7_in 7 = .ok (.if_icmp .gt 7, 3) := by decide +kernel
theorem dX7_in_10 : decode cX7_in 10 = .ok (.iconst 1, 1) := by decide +kernel
theorem dX7_in_11 : decode cX7_in 11 = .ok (.goto 4, 3) := by decide +kernel
theorem dX7_in_14 : decode cX7_in 14 = .ok (.iconst 0, 1) := by decide +kernel
theorem dX7_in_15 : decode cX7_in 15 = .ok (.ireturn, 1) := by decide +kernel
theorem dX7_plain_0 : decode cX7_plain 0 = .ok (.aload_n 0, 1) := by decide +kernel
theorem dX7_plain_1 : decode cX7_plain 1 = .ok (.iconst 0, 1) := by decide +kernel
theorem dX7_plain_2 : decode cX7_plain 2 = .ok (.putfield 69, 3) := by decide +kernel
theorem dX7_plain_5 : decode cX7_plain 5 = .ok (.iload_n 1, 1) := by decide +kernel
theorem dX7_plain_6 : decode cX7_plain 6 = .ok (.ireturn, 1) := by decide +kernel
theorem dX7_checked_0 : decode cX7_checked 0 = .ok (.aload_n 0, 1) := by decide +kernel
theorem dX7_checked_1 : decode cX7_checked 1 = .ok (.iload_n 1, 1) := by decide +kernel
theorem dX7_checked_2 : decode cX7_checked 2 = .ok (.ifCond .eq 7, 3) := by decide +kernel
theorem dX7_checked_5 : decode cX7_checked 5 = .ok (.iconst 0, 1) := by decide +kernel
theorem dX7_checked_6 : decode cX7_checked 6 = .ok (.goto 4, 3) := by decide +kernel
theorem dX7_checked_9 : decode cX7_checked 9 = .ok (.iconst 1, 1) := by decide +kernel
theorem dX7_checked_10 : decode cX7_checked 10 = .ok (.putfield 69, 3) := by decide +kernel
theorem dX7_checked_13 : decode cX7_checked 13 = .ok (.aload_n 0, 1) := by decide +kernel
theorem dX7_checked_14 : decode cX7_checked 14 = .ok (.getfield 69, 3) := by decide +kernel
theorem dX7_checked_17 : decode cX7_checked 17 = .ok (.ireturn, 1) := by decide +kernel
theorem dX7_bits_0 : decode cX7_bits 0 = .ok (.iconst 0, 1) := by decide +kernel
theorem dX7_bits_1 : decode cX7_bits 1 = .ok (.istore_n 1, 1) := by decide +kernel
theorem dX7_bits_2 : decode cX7_bits 2 = .ok (.iconst 0, 1) := by decide +kernel
theorem dX7_bits_3 : decode cX7_bits 3 = .ok (.istore_n 2, 1) := by decide +kernel
theorem dX7_bits_4 : decode cX7_bits 4 = .ok (.iload_n 2, 1) := by decide +kernel
theorem dX7_bits_5 : decode cX7_bits 5 = .ok (.bipush 10, 2) := by decide +kernel
theorem dX7_bits_7 : decode cX7_bits 7 = .ok (.if_icmp .ge 17, 3) := by decide +kernel
theorem dX7_bits_10 : decode cX7_bits 10 = .ok (.iload_n 1, 1) := by decide +kernel
theorem dX7_bits_11 : decode cX7_bits 11 = .ok (.iload_n 0, 1) := by decide +kernel
theorem dX7_bits_12 : decode cX7_bits 12 = .ok (.iload_n 2, 1) := by decide +kernel
theorem dX7_bits_13 : decode cX7_bits 13 = .ok (.ishr, 1) := by decide +kernel
theorem dX7_bits_14 : decode cX7_bits 14 = .ok (.iconst 1, 1) := by decide +kernel
theorem dX7_bits_15 : decode cX7_bits 15 = .ok (.iand, 1) := by decide +kernel
theorem dX7_bits_16 : decode cX7_bits 16 = .ok (.iadd, 1) := by decide +kernel
theorem dX7_bits_17 : decode cX7_bits 17 = .ok (.istore_n 1, 1) := by decide +kernel
theorem dX7_bits_18 : decode cX7_bits 18 = .ok (.iinc 2 1, 3) := by decide +kernel
theorem dX7_bits_21 : decode cX7_bits 21 = .ok (.goto (-17), 3) := by decide +kernel
theorem dX7_bits_24 : decode cX7_bits 24 = .ok (.iload_n 1, 1) := by decide +kernel
theorem dX7_bits_25 : decode cX7_bits 25 = .ok (.ireturn, 1) := by decide +kernel
theorem dX7_isTicket_0 : decode cX7_isTicket 0 = .ok (.iload_n 1, 1) := by decide +kernel
theorem dX7_isTicket_1 : decode cX7_isTicket 1 = .ok (.iconst 0, 1) := by decide +kernel
theorem dX7_isTicket_2 : decode cX7_isTicket 2 = .ok (.aload_n 0, 1) := by decide +kernel
theorem dX7_isTicket_3 : decode cX7_isTicket 3 = .ok (.getfield 79, 3) := by decide +kernel
theorem dX7_isTicket_6 : decode cX7_isTicket 6 = .ok (.iconst 1, 1) := by decide +kernel
theorem dX7_isTicket_7 : decode cX7_isTicket 7 = .ok (.isub, 1) := by decide +kernel
theorem dX7_isTicket_8 : decode cX7_isTicket 8 = .ok (.invokestatic 104, 3) := by decide +kernel
theorem dX7_isTicket_11 : decode cX7_isTicket 11 = .ok (.ireturn, 1) := by decide +kernel
theorem dX7_isAgent_0 : decode cX7_isAgent 0 = .ok (.iload_n 1, 1) := by decide +kernel
theorem dX7_isAgent_1 : decode cX7_isAgent 1 = .ok (.iconst 0, 1) := by decide +kernel
theorem dX7_isAgent_2 : decode cX7_isAgent 2 = .ok (.aload_n 0, 1) := by decide +kernel
theorem dX7_isAgent_3 : decode cX7_isAgent 3 = .ok (.getfield 82, 3) := by decide +kernel
theorem dX7_isAgent_6 : decode cX7_isAgent 6 = .ok (.iconst 1, 1) := by decide +kernel
theorem dX7_isAgent_7 : decode cX7_isAgent 7 = .ok (.isub, 1) := by decide +kernel
theorem dX7_isAgent_8 : decode cX7_isAgent 8 = .ok (.invokestatic 104, 3) := by decide +kernel
theorem dX7_isAgent_11 : decode cX7_isAgent 11 = .ok (.ireturn, 1) := by decide +kernel
theorem dX7_isLive_0 : decode cX7_isLive 0 = .ok (.aload_n 0, 1) := by decide +kernel
theorem dX7_isLive_1 : decode cX7_isLive 1 = .ok (.getfield 49, 3) := by decide +kernel
theorem dX7_isLive_4 : decode cX7_isLive 4 = .ok (.iload_n 1, 1) := by decide +kernel
theorem dX7_isLive_5 : decode cX7_isLive 5 = .ok (.caload, 1) := by decide +kernel
theorem dX7_isLive_6 : decode cX7_isLive 6 = .ok (.bipush 111, 2) := by decide +kernel
theorem dX7_isLive_8 : decode cX7_isLive 8 = .ok (.if_icmp .eq 14, 3) := by decide +kernel
theorem dX7_isLive_11 : decode cX7_isLive 11 = .ok (.aload_n 0, 1) := by decide +kernel
theorem dX7_isLive_12 : decode cX7_isLive 12 = .ok (.getfield 49, 3) := by decide +kernel
theorem dX7_isLive_15 : decode cX7_isLive 15 = .ok (.iload_n 1, 1) := by decide +kernel
theorem dX7_isLive_16 : decode cX7_isLive 16 = .ok (.caload, 1) := by decide +kernel
theorem dX7_isLive_17 : decode cX7_isLive 17 = .ok (.bipush 104, 2) := by decide +kernel
theorem dX7_isLive_19 : decode cX7_isLive 19 = .ok (.if_icmp .ne 7, 3) := by decide +kernel
theorem dX7_isLive_22 : decode cX7_isLive 22 = .ok (.iconst 1, 1) := by decide +kernel
theorem dX7_isLive_23 : decode cX7_isLive 23 = .ok (.goto 4, 3) := by decide +kernel
theorem dX7_isLive_26 : decode cX7_isLive 26 = .ok (.iconst 0, 1) := by decide +kernel
theorem dX7_isLive_27 : decode cX7_isLive 27 = .ok (.ireturn, 1) := by decide +kernel
theorem dX7_leftFor_0 : decode cX7_leftFor 0 = .ok (.aload_n 0, 1) := by decide +kernel
theorem dX7_leftFor_1 : decode cX7_leftFor 1 = .ok (.getfield 13, 3) := by decide +kernel
theorem dX7_leftFor_4 : decode cX7_leftFor 4 = .ok (.aload_n 0, 1) := by decide +kernel
theorem dX7_leftFor_5 : decode cX7_leftFor 5 = .ok (.getfield 7, 3) := by decide +kernel
theorem dX7_leftFor_8 : decode cX7_leftFor 8 = .ok (.aload_n 0, 1) := by decide +kernel
theorem dX7_leftFor_9 : decode cX7_leftFor 9 = .ok (.getfield 22, 3) := by decide +kernel
theorem dX7_leftFor_12 : decode cX7_leftFor 12 = .ok (.iload_n 1, 1) := by decide +kernel
theorem dX7_leftFor_13 : decode cX7_leftFor 13 = .ok (.iaload, 1) := by decide +kernel
theorem dX7_leftFor_14 : decode cX7_leftFor 14 = .ok (.iaload, 1) := by decide +kernel
theorem dX7_leftFor_15 : decode cX7_leftFor 15 = .ok (.iaload, 1) := by decide +kernel
theorem dX7_leftFor_16 : decode cX7_leftFor 16 = .ok (.aload_n 0, 1) := by decide +kernel
theorem dX7_leftFor_17 : decode cX7_leftFor 17 = .ok (.getfield 31, 3) := by decide +kernel
theorem dX7_leftFor_20 : decode cX7_leftFor 20 = .ok (.iload_n 1, 1) := by decide +kernel
theorem dX7_leftFor_21 : decode cX7_leftFor 21 = .ok (.iaload, 1) := by decide +kernel
theorem dX7_leftFor_22 : decode cX7_leftFor 22 = .ok (.isub, 1) := by decide +kernel
theorem dX7_leftFor_23 : decode cX7_leftFor 23 = .ok (.ireturn, 1) := by decide +kernel
theorem dX7_minute_0 : decode cX7_minute 0 = .ok (.iconst 0, 1) := by decide +kernel
theorem dX7_minute_1 : decode cX7_minute 1 = .ok (.istore_n 1, 1) := by decide +kernel
theorem dX7_minute_2 : decode cX7_minute 2 = .ok (.aload_n 0, 1) := by decide +kernel
theorem dX7_minute_3 : decode cX7_minute 3 = .ok (.dup, 1) := by decide +kernel
theorem dX7_minute_4 : decode cX7_minute 4 = .ok (.getfield 73, 3) := by decide +kernel
theorem dX7_minute_7 : decode cX7_minute 7 = .ok (.iconst 1, 1) := by decide +kernel
theorem dX7_minute_8 : decode cX7_minute 8 = .ok (.iadd, 1) := by decide +kernel
theorem dX7_minute_9 : decode cX7_minute 9 = .ok (.putfield 73, 3) := by decide +kernel
theorem dX7_minute_12 : decode cX7_minute 12 = .ok (.iconst 0, 1) := by decide +kernel
theorem dX7_minute_13 : decode cX7_minute 13 = .ok (.istore_n 2, 1) := by decide +kernel
theorem dX7_minute_14 : decode cX7_minute 14 = .ok (.iload_n 2, 1) := by decide +kernel
theorem dX7_minute_15 : decode cX7_minute 15 = .ok (.aload_n 0, 1) := by decide +kernel
theorem dX7_minute_16 : decode cX7_minute 16 = .ok (.getfield 79, 3) := by decide +kernel
theorem dX7_minute_19 : decode cX7_minute 19 = .ok (.if_icmp .ge 73, 3) := by decide +kernel
theorem dX7_minute_22 : decode cX7_minute 22 = .ok (.aload_n 0, 1) := by decide +kernel
theorem dX7_minute_23 : decode cX7_minute 23 = .ok (.getfield 49, 3) := by decide +kernel
theorem dX7_minute_26 : decode cX7_minute 26 = .ok (.iload_n 2, 1) := by decide +kernel
theorem dX7_minute_27 : decode cX7_minute 27 = .ok (.caload, 1) := by decide +kernel
theorem dX7_minute_28 : decode cX7_minute 28 = .ok (.bipush 111, 2) := by decide +kernel
theorem dX7_minute_30 : decode cX7_minute 30 = .ok (.if_icmp .eq 6, 3) := by decide +kernel
theorem dX7_minute_33 : decode cX7_minute 33 = .ok (.goto 53, 3) := by decide +kernel
theorem dX7_minute_36 : decode cX7_minute 36 = .ok (.aload_n 0, 1) := by decide +kernel
theorem dX7_minute_37 : decode cX7_minute 37 = .ok (.getfield 31, 3) := by decide +kernel
theorem dX7_minute_40 : decode cX7_minute 40 = .ok (.iload_n 2, 1) := by decide +kernel
theorem dX7_minute_41 : decode cX7_minute 41 = .ok (.dup2, 1) := by decide +kernel
theorem dX7_minute_42 : decode cX7_minute 42 = .ok (.iaload, 1) := by decide +kernel
theorem dX7_minute_43 : decode cX7_minute 43 = .ok (.iconst 1, 1) := by decide +kernel
theorem dX7_minute_44 : decode cX7_minute 44 = .ok (.iadd, 1) := by decide +kernel
theorem dX7_minute_45 : decode cX7_minute 45 = .ok (.iastore, 1) := by decide +kernel
theorem dX7_minute_46 : decode cX7_minute 46 = .ok (.aload_n 0, 1) := by decide +kernel
theorem dX7_minute_47 : decode cX7_minute 47 = .ok (.dup, 1) := by decide +kernel
theorem dX7_minute_48 : decode cX7_minute 48 = .ok (.getfield 100, 3) := by decide +kernel
theorem dX7_minute_51 : decode cX7_minute 51 = .ok (.lconst 1, 1) := by decide +kernel
theorem dX7_minute_52 : decode cX7_minute 52 = .ok (.ladd, 1) := by decide +kernel
theorem dX7_minute_53 : decode cX7_minute 53 = .ok (.putfield 100, 3) := by decide +kernel
theorem dX7_minute_56 : decode cX7_minute 56 = .ok (.aload_n 0, 1) := by decide +kernel
theorem dX7_minute_57 : decode cX7_minute 57 = .ok (.iload_n 2, 1) := by decide +kernel
theorem dX7_minute_58 : decode cX7_minute 58 = .ok (.invokevirtual 108, 3) := by decide +kernel
theorem dX7_minute_61 : decode cX7_minute 61 = .ok (.ifCond .ge 25, 3) := by decide +kernel
theorem dX7_minute_64 : decode cX7_minute 64 = .ok (.aload_n 0, 1) := by decide +kernel
theorem dX7_minute_65 : decode cX7_minute 65 = .ok (.getfield 53, 3) := by decide +kernel
theorem dX7_minute_68 : decode cX7_minute 68 = .ok (.iload_n 2, 1) := by decide +kernel
theorem dX7_minute_69 : decode cX7_minute 69 = .ok (.baload, 1) := by decide +kernel
theorem dX7_minute_70 : decode cX7_minute 70 = .ok (.ifCond .eq 6, 3) := by decide +kernel
theorem dX7_minute_73 : decode cX7_minute 73 = .ok (.goto 13, 3) := by decide +kernel
theorem dX7_minute_76 : decode cX7_minute 76 = .ok (.aload_n 0, 1) := by decide +kernel
theorem dX7_minute_77 : decode cX7_minute 77 = .ok (.getfield 53, 3) := by decide +kernel
theorem dX7_minute_80 : decode cX7_minute 80 = .ok (.iload_n 2, 1) := by decide +kernel
theorem dX7_minute_81 : decode cX7_minute 81 = .ok (.iconst 1, 1) := by decide +kernel
theorem dX7_minute_82 : decode cX7_minute 82 = .ok (.bastore, 1) := by decide +kernel
theorem dX7_minute_83 : decode cX7_minute 83 = .ok (.iinc 1 1, 3) := by decide +kernel
theorem dX7_minute_86 : decode cX7_minute 86 = .ok (.iinc 2 1, 3) := by decide +kernel
theorem dX7_minute_89 : decode cX7_minute 89 = .ok (.goto (-75), 3) := by decide +kernel
theorem dX7_minute_92 : decode cX7_minute 92 = .ok (.aload_n 0, 1) := by decide +kernel
theorem dX7_minute_93 : decode cX7_minute 93 = .ok (.dup, 1) := by decide +kernel
theorem dX7_minute_94 : decode cX7_minute 94 = .ok (.getfield 88, 3) := by decide +kernel
theorem dX7_minute_97 : decode cX7_minute 97 = .ok (.iload_n 1, 1) := by decide +kernel
theorem dX7_minute_98 : decode cX7_minute 98 = .ok (.iadd, 1) := by decide +kernel
theorem dX7_minute_99 : decode cX7_minute 99 = .ok (.putfield 88, 3) := by decide +kernel
theorem dX7_minute_102 : decode cX7_minute 102 = .ok (.iload_n 1, 1) := by decide +kernel
theorem dX7_minute_103 : decode cX7_minute 103 = .ok (.ireturn, 1) := by decide +kernel
theorem dX7_pass_0 : decode cX7_pass 0 = .ok (.aload_n 0, 1) := by decide +kernel
theorem dX7_pass_1 : decode cX7_pass 1 = .ok (.iload_n 1, 1) := by decide +kernel
theorem dX7_pass_2 : decode cX7_pass 2 = .ok (.iconst 1, 1) := by decide +kernel
theorem dX7_pass_3 : decode cX7_pass 3 = .ok (.sipush 600, 3) := by decide +kernel
theorem dX7_pass_6 : decode cX7_pass 6 = .ok (.invokestatic 104, 3) := by decide +kernel
theorem dX7_pass_9 : decode cX7_pass 9 = .ok (.invokevirtual 112, 3) := by decide +kernel
theorem dX7_pass_12 : decode cX7_pass 12 = .ok (.ifCond .le 5, 3) := by decide +kernel
theorem dX7_pass_15 : decode cX7_pass 15 = .ok (.iconst 0, 1) := by decide +kernel
theorem dX7_pass_16 : decode cX7_pass 16 = .ok (.ireturn, 1) := by decide +kernel
theorem dX7_pass_17 : decode cX7_pass 17 = .ok (.iconst 0, 1) := by decide +kernel
theorem dX7_pass_18 : decode cX7_pass 18 = .ok (.istore_n 2, 1) := by decide +kernel
theorem dX7_pass_19 : decode cX7_pass 19 = .ok (.iconst 0, 1) := by decide +kernel
theorem dX7_pass_20 : decode cX7_pass 20 = .ok (.istore_n 3, 1) := by decide +kernel
theorem dX7_pass_21 : decode cX7_pass 21 = .ok (.iload_n 3, 1) := by decide +kernel
theorem dX7_pass_22 : decode cX7_pass 22 = .ok (.iload_n 1, 1) := by decide +kernel
theorem dX7_pass_23 : decode cX7_pass 23 = .ok (.if_icmp .ge 16, 3) := by decide +kernel
theorem dX7_pass_26 : decode cX7_pass 26 = .ok (.iload_n 2, 1) := by decide +kernel
theorem dX7_pass_27 : decode cX7_pass 27 = .ok (.aload_n 0, 1) := by decide +kernel
theorem dX7_pass_28 : decode cX7_pass 28 = .ok (.invokevirtual 116, 3) := by decide +kernel
theorem dX7_pass_31 : decode cX7_pass 31 = .ok (.iadd, 1) := by decide +kernel
theorem dX7_pass_32 : decode cX7_pass 32 = .ok (.istore_n 2, 1) := by decide +kernel
theorem dX7_pass_33 : decode cX7_pass 33 = .ok (.iinc 3 1, 3) := by decide +kernel
theorem dX7_pass_36 : decode cX7_pass 36 = .ok (.goto (-15), 3) := by decide +kernel
theorem dX7_pass_39 : decode cX7_pass 39 = .ok (.iload_n 2, 1) := by decide +kernel
theorem dX7_pass_40 : decode cX7_pass 40 = .ok (.ireturn, 1) := by decide +kernel
theorem dX7_time_0 : decode cX7_time 0 = .ok (.aload_n 0, 1) := by decide +kernel
theorem dX7_time_1 : decode cX7_time 1 = .ok (.aload_n 0, 1) := by decide +kernel
theorem dX7_time_2 : decode cX7_time 2 = .ok (.getfield 73, 3) := by decide +kernel
theorem dX7_time_5 : decode cX7_time 5 = .ok (.invokevirtual 120, 3) := by decide +kernel
theorem dX7_time_8 : decode cX7_time 8 = .ok (.ireturn, 1) := by decide +kernel
theorem dX7_setClass_0 : decode cX7_setClass 0 = .ok (.aload_n 0, 1) := by decide +kernel
theorem dX7_setClass_1 : decode cX7_setClass 1 = .ok (.iload_n 1, 1) := by decide +kernel
theorem dX7_setClass_2 : decode cX7_setClass 2 = .ok (.iconst 0, 1) := by decide +kernel
theorem dX7_setClass_3 : decode cX7_setClass 3 = .ok (.bipush 7, 2) := by decide +kernel
theorem dX7_setClass_5 : decode cX7_setClass 5 = .ok (.invokestatic 104, 3) := by decide +kernel
theorem dX7_setClass_8 : decode cX7_setClass 8 = .ok (.ifCond .eq 16, 3) := by decide +kernel
theorem dX7_setClass_11 : decode cX7_setClass 11 = .ok (.iload_n 2, 1) := by decide +kernel
theorem dX7_setClass_12 : decode cX7_setClass 12 = .ok (.iconst 0, 1) := by decide +kernel
theorem dX7_setClass_13 : decode cX7_setClass 13 = .ok (.iconst 2, 1) := by decide +kernel
theorem dX7_setClass_14 : decode cX7_setClass 14 = .ok (.invokestatic 104, 3) := by decide +kernel
theorem dX7_setClass_17 : decode cX7_setClass 17 = .ok (.ifCond .eq 7, 3) := by decide +kernel
theorem dX7_setClass_20 : decode cX7_setClass 20 = .ok (.iconst 1, 1) := by decide +kernel
theorem dX7_setClass_21 : decode cX7_setClass 21 = .ok (.goto 4, 3) := by decide +kernel
theorem dX7_setClass_24 : decode cX7_setClass 24 = .ok (.iconst 0, 1) := by decide +kernel
theorem dX7_setClass_25 : decode cX7_setClass 25 = .ok (.invokevirtual 112, 3) := by decide +kernel
theorem dX7_setClass_28 : decode cX7_setClass 28 = .ok (.ifCond .le 5, 3) := by decide +kernel
theorem dX7_setClass_31 : decode cX7_setClass 31 = .ok (.iconst 0, 1) := by decide +kernel
theorem dX7_setClass_32 : decode cX7_setClass 32 = .ok (.ireturn, 1) := by decide +kernel
theorem dX7_setClass_33 : decode cX7_setClass 33 = .ok (.aload_n 0, 1) := by decide +kernel
theorem dX7_setClass_34 : decode cX7_setClass 34 = .ok (.getfield 7, 3) := by decide +kernel
theorem dX7_setClass_37 : decode cX7_setClass 37 = .ok (.iload_n 1, 1) := by decide +kernel
theorem dX7_setClass_38 : decode cX7_setClass 38 = .ok (.iaload, 1) := by decide +kernel
theorem dX7_setClass_39 : decode cX7_setClass 39 = .ok (.istore_n 3, 1) := by decide +kernel
theorem dX7_setClass_40 : decode cX7_setClass 40 = .ok (.aload_n 0, 1) := by decide +kernel
theorem dX7_setClass_41 : decode cX7_setClass 41 = .ok (.getfield 7, 3) := by decide +kernel
theorem dX7_setClass_44 : decode cX7_setClass 44 = .ok (.iload_n 1, 1) := by decide +kernel
theorem dX7_setClass_45 : decode cX7_setClass 45 = .ok (.iload_n 2, 1) := by decide +kernel
theorem dX7_setClass_46 : decode cX7_setClass 46 = .ok (.iastore, 1) := by decide +kernel
theorem dX7_setClass_47 : decode cX7_setClass 47 = .ok (.iload_n 3, 1) := by decide +kernel
theorem dX7_setClass_48 : decode cX7_setClass 48 = .ok (.ireturn, 1) := by decide +kernel
theorem dX7_setPromise_0 : decode cX7_setPromise 0 = .ok (.aload_n 0, 1) := by decide +kernel
theorem dX7_setPromise_1 : decode cX7_setPromise 1 = .ok (.iload_n 1, 1) := by decide +kernel
theorem dX7_setPromise_2 : decode cX7_setPromise 2 = .ok (.iconst 0, 1) := by decide +kernel
theorem dX7_setPromise_3 : decode cX7_setPromise 3 = .ok (.iconst 2, 1) := by decide +kernel
theorem dX7_setPromise_4 : decode cX7_setPromise 4 = .ok (.invokestatic 104, 3) := by decide +kernel
theorem dX7_setPromise_7 : decode cX7_setPromise 7 = .ok (.ifCond .eq 18, 3) := by decide +kernel
theorem dX7_setPromise_10 : decode cX7_setPromise 10 = .ok (.iload_n 2, 1) := by decide +kernel
theorem dX7_setPromise_11 : decode cX7_setPromise 11 = .ok (.iconst 1, 1) := by decide +kernel
theorem dX7_setPromise_12 : decode cX7_setPromise 12 = .ok (.sipush 9999, 3) := by decide +kernel
theorem dX7_setPromise_15 : decode cX7_setPromise 15 = .ok (.invokestatic 104, 3) := by decide +kernel
theorem dX7_setPromise_18 : decode cX7_setPromise 18 = .ok (.ifCond .eq 7, 3) := by decide +kernel
theorem dX7_setPromise_21 : decode cX7_setPromise 21 = .ok (.iconst 1, 1) := by decide +kernel
theorem dX7_setPromise_22 : decode cX7_setPromise 22 = .ok (.goto 4, 3) := by decide +kernel
theorem dX7_setPromise_25 : decode cX7_setPromise 25 = .ok (.iconst 0, 1) := by decide +kernel
theorem dX7_setPromise_26 : decode cX7_setPromise 26 = .ok (.invokevirtual 112, 3) := by decide +kernel
theorem dX7_setPromise_29 : decode cX7_setPromise 29 = .ok (.ifCond .le 5, 3) := by decide +kernel
theorem dX7_setPromise_32 : decode cX7_setPromise 32 = .ok (.iconst 0, 1) := by decide +kernel
theorem dX7_setPromise_33 : decode cX7_setPromise 33 = .ok (.ireturn, 1) := by decide +kernel
theorem dX7_setPromise_34 : decode cX7_setPromise 34 = .ok (.aload_n 0, 1) := by decide +kernel
theorem dX7_setPromise_35 : decode cX7_setPromise 35 = .ok (.getfield 13, 3) := by decide +kernel
theorem dX7_setPromise_38 : decode cX7_setPromise 38 = .ok (.iload_n 1, 1) := by decide +kernel
theorem dX7_setPromise_39 : decode cX7_setPromise 39 = .ok (.iaload, 1) := by decide +kernel
theorem dX7_setPromise_40 : decode cX7_setPromise 40 = .ok (.istore_n 3, 1) := by decide +kernel
theorem dX7_setPromise_41 : decode cX7_setPromise 41 = .ok (.aload_n 0, 1) := by decide +kernel
theorem dX7_setPromise_42 : decode cX7_setPromise 42 = .ok (.getfield 13, 3) := by decide +kernel
theorem dX7_setPromise_45 : decode cX7_setPromise 45 = .ok (.iload_n 1, 1) := by decide +kernel
theorem dX7_setPromise_46 : decode cX7_setPromise 46 = .ok (.iload_n 2, 1) := by decide +kernel
theorem dX7_setPromise_47 : decode cX7_setPromise 47 = .ok (.iastore, 1) := by decide +kernel
theorem dX7_setPromise_48 : decode cX7_setPromise 48 = .ok (.iload_n 3, 1) := by decide +kernel
theorem dX7_setPromise_49 : decode cX7_setPromise 49 = .ok (.ireturn, 1) := by decide +kernel
theorem dX7_counts_0 : decode cX7_counts 0 = .ok (.aload_n 0, 1) := by decide +kernel
theorem dX7_counts_1 : decode cX7_counts 1 = .ok (.iload_n 1, 1) := by decide +kernel
theorem dX7_counts_2 : decode cX7_counts 2 = .ok (.invokevirtual 123, 3) := by decide +kernel
theorem dX7_counts_5 : decode cX7_counts 5 = .ok (.ifCond .ne 42, 3) := by decide +kernel
theorem dX7_counts_8 : decode cX7_counts 8 = .ok (.aload_n 0, 1) := by decide +kernel
theorem dX7_counts_9 : decode cX7_counts 9 = .ok (.getfield 49, 3) := by decide +kernel
theorem dX7_counts_12 : decode cX7_counts 12 = .ok (.iload_n 1, 1) := by decide +kernel
theorem dX7_counts_13 : decode cX7_counts 13 = .ok (.caload, 1) := by decide +kernel
theorem dX7_counts_14 : decode cX7_counts 14 = .ok (.bipush 97, 2) := by decide +kernel
theorem dX7_counts_16 : decode cX7_counts 16 = .ok (.if_icmp .eq 31, 3) := by decide +kernel
theorem dX7_counts_19 : decode cX7_counts 19 = .ok (.aload_n 0, 1) := by decide +kernel
theorem dX7_counts_20 : decode cX7_counts 20 = .ok (.getfield 49, 3) := by decide +kernel
theorem dX7_counts_23 : decode cX7_counts 23 = .ok (.iload_n 1, 1) := by decide +kernel
theorem dX7_counts_24 : decode cX7_counts 24 = .ok (.caload, 1) := by decide +kernel
theorem dX7_counts_25 : decode cX7_counts 25 = .ok (.bipush 99, 2) := by decide +kernel
theorem dX7_counts_27 : decode cX7_counts 27 = .ok (.if_icmp .ne 24, 3) := by decide +kernel
theorem dX7_counts_30 : decode cX7_counts 30 = .ok (.aload_n 0, 1) := by decide +kernel
theorem dX7_counts_31 : decode cX7_counts 31 = .ok (.getfield 73, 3) := by decide +kernel
theorem dX7_counts_34 : decode cX7_counts 34 = .ok (.aload_n 0, 1) := by decide +kernel
theorem dX7_counts_35 : decode cX7_counts 35 = .ok (.getfield 40, 3) := by decide +kernel
theorem dX7_counts_38 : decode cX7_counts 38 = .ok (.iload_n 1, 1) := by decide +kernel
theorem dX7_counts_39 : decode cX7_counts 39 = .ok (.iaload, 1) := by decide +kernel
theorem dX7_counts_40 : decode cX7_counts 40 = .ok (.isub, 1) := by decide +kernel
theorem dX7_counts_41 : decode cX7_counts 41 = .ok (.sipush 1440, 3) := by decide +kernel
theorem dX7_counts_44 : decode cX7_counts 44 = .ok (.if_icmp .gt 7, 3) := by decide +kernel
theorem dX7_counts_47 : decode cX7_counts 47 = .ok (.iconst 1, 1) := by decide +kernel
theorem dX7_counts_48 : decode cX7_counts 48 = .ok (.goto 4, 3) := by decide +kernel
theorem dX7_counts_51 : decode cX7_counts 51 = .ok (.iconst 0, 1) := by decide +kernel
theorem dX7_counts_52 : decode cX7_counts 52 = .ok (.ireturn, 1) := by decide +kernel
theorem dX7_latest_0 : decode cX7_latest 0 = .ok (.iconst (-1), 1) := by decide +kernel
theorem dX7_latest_1 : decode cX7_latest 1 = .ok (.istore_n 2, 1) := by decide +kernel
theorem dX7_latest_2 : decode cX7_latest 2 = .ok (.iconst 0, 1) := by decide +kernel
theorem dX7_latest_3 : decode cX7_latest 3 = .ok (.istore_n 3, 1) := by decide +kernel
theorem dX7_latest_4 : decode cX7_latest 4 = .ok (.iload_n 3, 1) := by decide +kernel
theorem dX7_latest_5 : decode cX7_latest 5 = .ok (.aload_n 0, 1) := by decide +kernel
theorem dX7_latest_6 : decode cX7_latest 6 = .ok (.getfield 76, 3) := by decide +kernel
theorem dX7_latest_9 : decode cX7_latest 9 = .ok (.if_icmp .ge 25, 3) := by decide +kernel
theorem dX7_latest_12 : decode cX7_latest 12 = .ok (.aload_n 0, 1) := by decide +kernel
theorem dX7_latest_13 : decode cX7_latest 13 = .ok (.getfield 16, 3) := by decide +kernel
theorem dX7_latest_16 : decode cX7_latest 16 = .ok (.iload_n 3, 1) := by decide +kernel
theorem dX7_latest_17 : decode cX7_latest 17 = .ok (.iaload, 1) := by decide +kernel
theorem dX7_latest_18 : decode cX7_latest 18 = .ok (.iload_n 1, 1) := by decide +kernel
theorem dX7_latest_19 : decode cX7_latest 19 = .ok (.if_icmp .ne 7, 3) := by decide +kernel
theorem dX7_latest_22 : decode cX7_latest 22 = .ok (.iload_n 3, 1) := by decide +kernel
theorem dX7_latest_23 : decode cX7_latest 23 = .ok (.goto 4, 3) := by decide +kernel
theorem dX7_latest_26 : decode cX7_latest 26 = .ok (.iload_n 2, 1) := by decide +kernel
theorem dX7_latest_27 : decode cX7_latest 27 = .ok (.istore_n 2, 1) := by decide +kernel
theorem dX7_latest_28 : decode cX7_latest 28 = .ok (.iinc 3 1, 3) := by decide +kernel
theorem dX7_latest_31 : decode cX7_latest 31 = .ok (.goto (-27), 3) := by decide +kernel
theorem dX7_latest_34 : decode cX7_latest 34 = .ok (.iload_n 2, 1) := by decide +kernel
theorem dX7_latest_35 : decode cX7_latest 35 = .ok (.ireturn, 1) := by decide +kernel
theorem dX7_joined_0 : decode cX7_joined 0 = .ok (.iload_n 3, 1) := by decide +kernel
theorem dX7_joined_1 : decode cX7_joined 1 = .ok (.ifCond .lt 38, 3) := by decide +kernel
theorem dX7_joined_4 : decode cX7_joined 4 = .ok (.aload_n 0, 1) := by decide +kernel
theorem dX7_joined_5 : decode cX7_joined 5 = .ok (.getfield 22, 3) := by decide +kernel
theorem dX7_joined_8 : decode cX7_joined 8 = .ok (.aload_n 0, 1) := by decide +kernel
theorem dX7_joined_9 : decode cX7_joined 9 = .ok (.getfield 16, 3) := by decide +kernel
theorem dX7_joined_12 : decode cX7_joined 12 = .ok (.iload_n 3, 1) := by decide +kernel
theorem dX7_joined_13 : decode cX7_joined 13 = .ok (.iaload, 1) := by decide +kernel
theorem dX7_joined_14 : decode cX7_joined 14 = .ok (.iaload, 1) := by decide +kernel
theorem dX7_joined_15 : decode cX7_joined 15 = .ok (.iload_n 1, 1) := by decide +kernel
theorem dX7_joined_16 : decode cX7_joined 16 = .ok (.if_icmp .ne 23, 3) := by decide +kernel
theorem dX7_joined_19 : decode cX7_joined 19 = .ok (.aload_n 0, 1) := by decide +kernel
theorem dX7_joined_20 : decode cX7_joined 20 = .ok (.aload_n 0, 1) := by decide +kernel
theorem dX7_joined_21 : decode cX7_joined 21 = .ok (.getfield 16, 3) := by decide +kernel
theorem dX7_joined_24 : decode cX7_joined 24 = .ok (.iload_n 3, 1) := by decide +kernel
theorem dX7_joined_25 : decode cX7_joined 25 = .ok (.iaload, 1) := by decide +kernel
theorem dX7_joined_26 : decode cX7_joined 26 = .ok (.invokevirtual 127, 3) := by decide +kernel
theorem dX7_joined_29 : decode cX7_joined 29 = .ok (.ifCond .eq 10, 3) := by decide +kernel
theorem dX7_joined_32 : decode cX7_joined 32 = .ok (.aload_n 0, 1) := by decide +kernel
theorem dX7_joined_33 : decode cX7_joined 33 = .ok (.getfield 16, 3) := by decide +kernel
theorem dX7_joined_36 : decode cX7_joined 36 = .ok (.iload_n 3, 1) := by decide +kernel
theorem dX7_joined_37 : decode cX7_joined 37 = .ok (.iaload, 1) := by decide +kernel
theorem dX7_joined_38 : decode cX7_joined 38 = .ok (.ireturn, 1) := by decide +kernel
theorem dX7_joined_39 : decode cX7_joined 39 = .ok (.iconst (-1), 1) := by decide +kernel
theorem dX7_joined_40 : decode cX7_joined 40 = .ok (.istore 4, 2) := by decide +kernel
theorem dX7_joined_42 : decode cX7_joined 42 = .ok (.iconst 0, 1) := by decide +kernel
theorem dX7_joined_43 : decode cX7_joined 43 = .ok (.istore 5, 2) := by decide +kernel
theorem dX7_joined_45 : decode cX7_joined 45 = .ok (.iload 5, 2) := by decide +kernel
theorem dX7_joined_47 : decode cX7_joined 47 = .ok (.aload_n 0, 1) := by decide +kernel
theorem dX7_joined_48 : decode cX7_joined 48 = .ok (.getfield 79, 3) := by decide +kernel
theorem dX7_joined_51 : decode cX7_joined 51 = .ok (.if_icmp .ge 67, 3) := by decide +kernel
theorem dX7_joined_54 : decode cX7_joined 54 = .ok (.aload_n 0, 1) := by decide +kernel
theorem dX7_joined_55 : decode cX7_joined 55 = .ok (.getfield 22, 3) := by decide +kernel
theorem dX7_joined_58 : decode cX7_joined 58 = .ok (.iload 5, 2) := by decide +kernel
theorem dX7_joined_60 : decode cX7_joined 60 = .ok (.iaload, 1) := by decide +kernel
theorem dX7_joined_61 : decode cX7_joined 61 = .ok (.iload_n 1, 1) := by decide +kernel
theorem dX7_joined_62 : decode cX7_joined 62 = .ok (.if_icmp .ne 50, 3) := by decide +kernel
theorem dX7_joined_65 : decode cX7_joined 65 = .ok (.aload_n 0, 1) := by decide +kernel
theorem dX7_joined_66 : decode cX7_joined 66 = .ok (.getfield 25, 3) := by decide +kernel
theorem dX7_joined_69 : decode cX7_joined 69 = .ok (.iload 5, 2) := by decide +kernel
theorem dX7_joined_71 : decode cX7_joined 71 = .ok (.iaload, 1) := by decide +kernel
theorem dX7_joined_72 : decode cX7_joined 72 = .ok (.iload_n 2, 1) := by decide +kernel
theorem dX7_joined_73 : decode cX7_joined 73 = .ok (.if_icmp .ne 39, 3) := by decide +kernel
theorem dX7_joined_76 : decode cX7_joined 76 = .ok (.aload_n 0, 1) := by decide +kernel
theorem dX7_joined_77 : decode cX7_joined 77 = .ok (.iload 5, 2) := by decide +kernel
theorem dX7_joined_79 : decode cX7_joined 79 = .ok (.invokevirtual 127, 3) := by decide +kernel
theorem dX7_joined_82 : decode cX7_joined 82 = .ok (.ifCond .ne 6, 3) := by decide +kernel
theorem dX7_joined_85 : decode cX7_joined 85 = .ok (.goto 27, 3) := by decide +kernel
theorem dX7_joined_88 : decode cX7_joined 88 = .ok (.iload 4, 2) := by decide +kernel
theorem dX7_joined_90 : decode cX7_joined 90 = .ok (.ifCond .lt 18, 3) := by decide +kernel
theorem dX7_joined_93 : decode cX7_joined 93 = .ok (.aload_n 0, 1) := by decide +kernel
theorem dX7_joined_94 : decode cX7_joined 94 = .ok (.iload 5, 2) := by decide +kernel
theorem dX7_joined_96 : decode cX7_joined 96 = .ok (.invokevirtual 130, 3) := by decide +kernel
theorem dX7_joined_99 : decode cX7_joined 99 = .ok (.aload_n 0, 1) := by decide +kernel
theorem dX7_joined_100 : decode cX7_joined 100 = .ok (.iload 4, 2) := by decide +kernel
theorem dX7_joined_102 : decode cX7_joined 102 = .ok (.invokevirtual 130, 3) := by decide +kernel
theorem dX7_joined_105 : decode cX7_joined 105 = .ok (.if_icmp .le 7, 3) := by decide +kernel
theorem dX7_joined_108 : decode cX7_joined 108 = .ok (.iload 5, 2) := by decide +kernel
theorem dX7_joined_110 : decode cX7_joined 110 = .ok (.istore 4, 2) := by decide +kernel
theorem dX7_joined_112 : decode cX7_joined 112 = .ok (.iinc 5 1, 3) := by decide +kernel
theorem dX7_joined_115 : decode cX7_joined 115 = .ok (.goto (-70), 3) := by decide +kernel
theorem dX7_joined_118 : decode cX7_joined 118 = .ok (.iload 4, 2) := by decide +kernel
theorem dX7_joined_120 : decode cX7_joined 120 = .ok (.ireturn, 1) := by decide +kernel
theorem dX7_makes_0 : decode cX7_makes 0 = .ok (.aload_n 0, 1) := by decide +kernel
theorem dX7_makes_1 : decode cX7_makes 1 = .ok (.getfield 22, 3) := by decide +kernel
theorem dX7_makes_4 : decode cX7_makes 4 = .ok (.aload_n 0, 1) := by decide +kernel
theorem dX7_makes_5 : decode cX7_makes 5 = .ok (.getfield 79, 3) := by decide +kernel
theorem dX7_makes_8 : decode cX7_makes 8 = .ok (.iload_n 1, 1) := by decide +kernel
theorem dX7_makes_9 : decode cX7_makes 9 = .ok (.iastore, 1) := by decide +kernel
theorem dX7_makes_10 : decode cX7_makes 10 = .ok (.aload_n 0, 1) := by decide +kernel
theorem dX7_makes_11 : decode cX7_makes 11 = .ok (.getfield 25, 3) := by decide +kernel
theorem dX7_makes_14 : decode cX7_makes 14 = .ok (.aload_n 0, 1) := by decide +kernel
theorem dX7_makes_15 : decode cX7_makes 15 = .ok (.getfield 79, 3) := by decide +kernel
theorem dX7_makes_18 : decode cX7_makes 18 = .ok (.iload_n 2, 1) := by decide +kernel
theorem dX7_makes_19 : decode cX7_makes 19 = .ok (.iastore, 1) := by decide +kernel
theorem dX7_makes_20 : decode cX7_makes 20 = .ok (.aload_n 0, 1) := by decide +kernel
theorem dX7_makes_21 : decode cX7_makes 21 = .ok (.getfield 28, 3) := by decide +kernel
theorem dX7_makes_24 : decode cX7_makes 24 = .ok (.aload_n 0, 1) := by decide +kernel
theorem dX7_makes_25 : decode cX7_makes 25 = .ok (.getfield 79, 3) := by decide +kernel
theorem dX7_makes_28 : decode cX7_makes 28 = .ok (.iload_n 3, 1) := by decide +kernel
theorem dX7_makes_29 : decode cX7_makes 29 = .ok (.iastore, 1) := by decide +kernel
theorem dX7_makes_30 : decode cX7_makes 30 = .ok (.aload_n 0, 1) := by decide +kernel
theorem dX7_makes_31 : decode cX7_makes 31 = .ok (.getfield 34, 3) := by decide +kernel
theorem dX7_makes_34 : decode cX7_makes 34 = .ok (.aload_n 0, 1) := by decide +kernel
theorem dX7_makes_35 : decode cX7_makes 35 = .ok (.getfield 79, 3) := by decide +kernel
theorem dX7_makes_38 : decode cX7_makes 38 = .ok (.iconst (-1), 1) := by decide +kernel
theorem dX7_makes_39 : decode cX7_makes 39 = .ok (.iastore, 1) := by decide +kernel
theorem dX7_makes_40 : decode cX7_makes 40 = .ok (.aload_n 0, 1) := by decide +kernel
theorem dX7_makes_41 : decode cX7_makes 41 = .ok (.getfield 43, 3) := by decide +kernel
theorem dX7_makes_44 : decode cX7_makes 44 = .ok (.aload_n 0, 1) := by decide +kernel
theorem dX7_makes_45 : decode cX7_makes 45 = .ok (.getfield 79, 3) := by decide +kernel
theorem dX7_makes_48 : decode cX7_makes 48 = .ok (.iconst (-1), 1) := by decide +kernel
theorem dX7_makes_49 : decode cX7_makes 49 = .ok (.iastore, 1) := by decide +kernel
theorem dX7_makes_50 : decode cX7_makes 50 = .ok (.aload_n 0, 1) := by decide +kernel
theorem dX7_makes_51 : decode cX7_makes 51 = .ok (.getfield 46, 3) := by decide +kernel
theorem dX7_makes_54 : decode cX7_makes 54 = .ok (.aload_n 0, 1) := by decide +kernel
theorem dX7_makes_55 : decode cX7_makes 55 = .ok (.getfield 79, 3) := by decide +kernel
theorem dX7_makes_58 : decode cX7_makes 58 = .ok (.iconst (-1), 1) := by decide +kernel
theorem dX7_makes_59 : decode cX7_makes 59 = .ok (.iastore, 1) := by decide +kernel
theorem dX7_makes_60 : decode cX7_makes 60 = .ok (.aload_n 0, 1) := by decide +kernel
theorem dX7_makes_61 : decode cX7_makes 61 = .ok (.getfield 49, 3) := by decide +kernel
theorem dX7_makes_64 : decode cX7_makes 64 = .ok (.aload_n 0, 1) := by decide +kernel
theorem dX7_makes_65 : decode cX7_makes 65 = .ok (.getfield 79, 3) := by decide +kernel
theorem dX7_makes_68 : decode cX7_makes 68 = .ok (.bipush 111, 2) := by decide +kernel
theorem dX7_makes_70 : decode cX7_makes 70 = .ok (.castore, 1) := by decide +kernel
theorem dX7_makes_71 : decode cX7_makes 71 = .ok (.aload_n 0, 1) := by decide +kernel
theorem dX7_makes_72 : decode cX7_makes 72 = .ok (.dup, 1) := by decide +kernel
theorem dX7_makes_73 : decode cX7_makes 73 = .ok (.getfield 79, 3) := by decide +kernel
theorem dX7_makes_76 : decode cX7_makes 76 = .ok (.iconst 1, 1) := by decide +kernel
theorem dX7_makes_77 : decode cX7_makes 77 = .ok (.iadd, 1) := by decide +kernel
theorem dX7_makes_78 : decode cX7_makes 78 = .ok (.putfield 79, 3) := by decide +kernel
theorem dX7_makes_81 : decode cX7_makes 81 = .ok (.return_, 1) := by decide +kernel
theorem dX7_learns_0 : decode cX7_learns 0 = .ok (.aload_n 0, 1) := by decide +kernel
theorem dX7_learns_1 : decode cX7_learns 1 = .ok (.getfield 46, 3) := by decide +kernel
theorem dX7_learns_4 : decode cX7_learns 4 = .ok (.iload_n 1, 1) := by decide +kernel
theorem dX7_learns_5 : decode cX7_learns 5 = .ok (.iaload, 1) := by decide +kernel
theorem dX7_learns_6 : decode cX7_learns 6 = .ok (.ifCond .ge 4, 3) := by decide +kernel
theorem dX7_learns_9 : decode cX7_learns 9 = .ok (.return_, 1) := by decide +kernel
theorem dX7_learns_10 : decode cX7_learns 10 = .ok (.bipush 6, 2) := by decide +kernel
theorem dX7_learns_12 : decode cX7_learns 12 = .ok (.aload_n 0, 1) := by decide +kernel
theorem dX7_learns_13 : decode cX7_learns 13 = .ok (.getfield 46, 3) := by decide +kernel
theorem dX7_learns_16 : decode cX7_learns 16 = .ok (.iload_n 1, 1) := by decide +kernel
theorem dX7_learns_17 : decode cX7_learns 17 = .ok (.iaload, 1) := by decide +kernel
theorem dX7_learns_18 : decode cX7_learns 18 = .ok (.imul, 1) := by decide +kernel
theorem dX7_learns_19 : decode cX7_learns 19 = .ok (.aload_n 0, 1) := by decide +kernel
theorem dX7_learns_20 : decode cX7_learns 20 = .ok (.getfield 28, 3) := by decide +kernel
theorem dX7_learns_23 : decode cX7_learns 23 = .ok (.iload_n 1, 1) := by decide +kernel
theorem dX7_learns_24 : decode cX7_learns 24 = .ok (.iaload, 1) := by decide +kernel
theorem dX7_learns_25 : decode cX7_learns 25 = .ok (.iadd, 1) := by decide +kernel
theorem dX7_learns_26 : decode cX7_learns 26 = .ok (.istore_n 3, 1) := by decide +kernel
theorem dX7_learns_27 : decode cX7_learns 27 = .ok (.aload_n 0, 1) := by decide +kernel
theorem dX7_learns_28 : decode cX7_learns 28 = .ok (.getfield 66, 3) := by decide +kernel
theorem dX7_learns_31 : decode cX7_learns 31 = .ok (.iload_n 3, 1) := by decide +kernel
theorem dX7_learns_32 : decode cX7_learns 32 = .ok (.iaload, 1) := by decide +kernel
theorem dX7_learns_33 : decode cX7_learns 33 = .ok (.iload_n 2, 1) := by decide +kernel
theorem dX7_learns_34 : decode cX7_learns 34 = .ok (.iadd, 1) := by decide +kernel
theorem dX7_learns_35 : decode cX7_learns 35 = .ok (.iconst 0, 1) := by decide +kernel
theorem dX7_learns_36 : decode cX7_learns 36 = .ok (.bipush 9, 2) := by decide +kernel
theorem dX7_learns_38 : decode cX7_learns 38 = .ok (.invokestatic 104, 3) := by decide +kernel
theorem dX7_learns_41 : decode cX7_learns 41 = .ok (.ifCond .eq 13, 3) := by decide +kernel
theorem dX7_learns_44 : decode cX7_learns 44 = .ok (.aload_n 0, 1) := by decide +kernel
theorem dX7_learns_45 : decode cX7_learns 45 = .ok (.getfield 66, 3) := by decide +kernel
theorem dX7_learns_48 : decode cX7_learns 48 = .ok (.iload_n 3, 1) := by decide +kernel
theorem dX7_learns_49 : decode cX7_learns 49 = .ok (.dup2, 1) := by decide +kernel
theorem dX7_learns_50 : decode cX7_learns 50 = .ok (.iaload, 1) := by decide +kernel
theorem dX7_learns_51 : decode cX7_learns 51 = .ok (.iload_n 2, 1) := by decide +kernel
theorem dX7_learns_52 : decode cX7_learns 52 = .ok (.iadd, 1) := by decide +kernel
theorem dX7_learns_53 : decode cX7_learns 53 = .ok (.iastore, 1) := by decide +kernel
theorem dX7_learns_54 : decode cX7_learns 54 = .ok (.aload_n 0, 1) := by decide +kernel
theorem dX7_learns_55 : decode cX7_learns 55 = .ok (.getfield 46, 3) := by decide +kernel
theorem dX7_learns_58 : decode cX7_learns 58 = .ok (.iload_n 1, 1) := by decide +kernel
theorem dX7_learns_59 : decode cX7_learns 59 = .ok (.iconst (-1), 1) := by decide +kernel
theorem dX7_learns_60 : decode cX7_learns 60 = .ok (.iastore, 1) := by decide +kernel
theorem dX7_learns_61 : decode cX7_learns 61 = .ok (.return_, 1) := by decide +kernel
theorem dX7_opens_0 : decode cX7_opens 0 = .ok (.aload_n 0, 1) := by decide +kernel
theorem dX7_opens_1 : decode cX7_opens 1 = .ok (.iload_n 1, 1) := by decide +kernel
theorem dX7_opens_2 : decode cX7_opens 2 = .ok (.invokevirtual 123, 3) := by decide +kernel
theorem dX7_opens_5 : decode cX7_opens 5 = .ok (.ifCond .eq 4, 3) := by decide +kernel
theorem dX7_opens_8 : decode cX7_opens 8 = .ok (.return_, 1) := by decide +kernel
theorem dX7_opens_9 : decode cX7_opens 9 = .ok (.aload_n 0, 1) := by decide +kernel
theorem dX7_opens_10 : decode cX7_opens 10 = .ok (.iload_n 1, 1) := by decide +kernel
theorem dX7_opens_11 : decode cX7_opens 11 = .ok (.iconst (-1), 1) := by decide +kernel
theorem dX7_opens_12 : decode cX7_opens 12 = .ok (.invokevirtual 133, 3) := by decide +kernel
theorem dX7_opens_15 : decode cX7_opens 15 = .ok (.aload_n 0, 1) := by decide +kernel
theorem dX7_opens_16 : decode cX7_opens 16 = .ok (.getfield 49, 3) := by decide +kernel
theorem dX7_opens_19 : decode cX7_opens 19 = .ok (.iload_n 1, 1) := by decide +kernel
theorem dX7_opens_20 : decode cX7_opens 20 = .ok (.bipush 111, 2) := by decide +kernel
theorem dX7_opens_22 : decode cX7_opens 22 = .ok (.castore, 1) := by decide +kernel
theorem dX7_opens_23 : decode cX7_opens 23 = .ok (.aload_n 0, 1) := by decide +kernel
theorem dX7_opens_24 : decode cX7_opens 24 = .ok (.getfield 31, 3) := by decide +kernel
theorem dX7_opens_27 : decode cX7_opens 27 = .ok (.iload_n 1, 1) := by decide +kernel
theorem dX7_opens_28 : decode cX7_opens 28 = .ok (.iconst 0, 1) := by decide +kernel
theorem dX7_opens_29 : decode cX7_opens 29 = .ok (.iastore, 1) := by decide +kernel
theorem dX7_opens_30 : decode cX7_opens 30 = .ok (.aload_n 0, 1) := by decide +kernel
theorem dX7_opens_31 : decode cX7_opens 31 = .ok (.getfield 53, 3) := by decide +kernel
theorem dX7_opens_34 : decode cX7_opens 34 = .ok (.iload_n 1, 1) := by decide +kernel
theorem dX7_opens_35 : decode cX7_opens 35 = .ok (.iconst 0, 1) := by decide +kernel
theorem dX7_opens_36 : decode cX7_opens 36 = .ok (.bastore, 1) := by decide +kernel
theorem dX7_opens_37 : decode cX7_opens 37 = .ok (.return_, 1) := by decide +kernel
theorem dX7_mail_0 : decode cX7_mail 0 = .ok (.aload_n 0, 1) := by decide +kernel
theorem dX7_mail_1 : decode cX7_mail 1 = .ok (.iload_n 1, 1) := by decide +kernel
theorem dX7_mail_2 : decode cX7_mail 2 = .ok (.iconst 0, 1) := by decide +kernel
theorem dX7_mail_3 : decode cX7_mail 3 = .ok (.bipush 7, 2) := by decide +kernel
theorem dX7_mail_5 : decode cX7_mail 5 = .ok (.invokestatic 104, 3) := by decide +kernel
theorem dX7_mail_8 : decode cX7_mail 8 = .ok (.ifCond .eq 35, 3) := by decide +kernel
theorem dX7_mail_11 : decode cX7_mail 11 = .ok (.iload_n 2, 1) := by decide +kernel
theorem dX7_mail_12 : decode cX7_mail 12 = .ok (.iconst 0, 1) := by decide +kernel
theorem dX7_mail_13 : decode cX7_mail 13 = .ok (.bipush 19, 2) := by decide +kernel
theorem dX7_mail_15 : decode cX7_mail 15 = .ok (.invokestatic 104, 3) := by decide +kernel
theorem dX7_mail_18 : decode cX7_mail 18 = .ok (.ifCond .eq 25, 3) := by decide +kernel
theorem dX7_mail_21 : decode cX7_mail 21 = .ok (.iload 4, 2) := by decide +kernel
theorem dX7_mail_23 : decode cX7_mail 23 = .ok (.iconst 0, 1) := by decide +kernel
theorem dX7_mail_24 : decode cX7_mail 24 = .ok (.iconst 5, 1) := by decide +kernel
theorem dX7_mail_25 : decode cX7_mail 25 = .ok (.invokestatic 104, 3) := by decide +kernel
theorem dX7_mail_28 : decode cX7_mail 28 = .ok (.ifCond .eq 15, 3) := by decide +kernel
theorem dX7_mail_31 : decode cX7_mail 31 = .ok (.iload 5, 2) := by decide +kernel
theorem dX7_mail_33 : decode cX7_mail 33 = .ok (.iconst 0, 1) := by decide +kernel
theorem dX7_mail_34 : decode cX7_mail 34 = .ok (.sipush 1023, 3) := by decide +kernel
theorem dX7_mail_37 : decode cX7_mail 37 = .ok (.invokestatic 104, 3) := by decide +kernel
theorem dX7_mail_40 : decode cX7_mail 40 = .ok (.ifCond .ne 7, 3) := by decide +kernel
theorem dX7_mail_43 : decode cX7_mail 43 = .ok (.iconst 1, 1) := by decide +kernel
theorem dX7_mail_44 : decode cX7_mail 44 = .ok (.goto 35, 3) := by decide +kernel
theorem dX7_mail_47 : decode cX7_mail 47 = .ok (.iload_n 3, 1) := by decide +kernel
theorem dX7_mail_48 : decode cX7_mail 48 = .ok (.iconst (-1), 1) := by decide +kernel
theorem dX7_mail_49 : decode cX7_mail 49 = .ok (.aload_n 0, 1) := by decide +kernel
theorem dX7_mail_50 : decode cX7_mail 50 = .ok (.getfield 76, 3) := by decide +kernel
theorem dX7_mail_53 : decode cX7_mail 53 = .ok (.iconst 1, 1) := by decide +kernel
theorem dX7_mail_54 : decode cX7_mail 54 = .ok (.isub, 1) := by decide +kernel
theorem dX7_mail_55 : decode cX7_mail 55 = .ok (.invokestatic 104, 3) := by decide +kernel
theorem dX7_mail_58 : decode cX7_mail 58 = .ok (.ifCond .ne 7, 3) := by decide +kernel
theorem dX7_mail_61 : decode cX7_mail 61 = .ok (.iconst 2, 1) := by decide +kernel
theorem dX7_mail_62 : decode cX7_mail 62 = .ok (.goto 17, 3) := by decide +kernel
theorem dX7_mail_65 : decode cX7_mail 65 = .ok (.aload_n 0, 1) := by decide +kernel
theorem dX7_mail_66 : decode cX7_mail 66 = .ok (.getfield 76, 3) := by decide +kernel
theorem dX7_mail_69 : decode cX7_mail 69 = .ok (.bipush 80, 2) := by decide +kernel
theorem dX7_mail_71 : decode cX7_mail 71 = .ok (.if_icmp .ne 7, 3) := by decide +kernel
theorem dX7_mail_74 : decode cX7_mail 74 = .ok (.iconst 3, 1) := by decide +kernel
theorem dX7_mail_75 : decode cX7_mail 75 = .ok (.goto 4, 3) := by decide +kernel
theorem dX7_mail_78 : decode cX7_mail 78 = .ok (.iconst 0, 1) := by decide +kernel
theorem dX7_mail_79 : decode cX7_mail 79 = .ok (.putfield 69, 3) := by decide +kernel
theorem dX7_mail_82 : decode cX7_mail 82 = .ok (.aload_n 0, 1) := by decide +kernel
theorem dX7_mail_83 : decode cX7_mail 83 = .ok (.getfield 69, 3) := by decide +kernel
theorem dX7_mail_86 : decode cX7_mail 86 = .ok (.ifCond .le 5, 3) := by decide +kernel
theorem dX7_mail_89 : decode cX7_mail 89 = .ok (.iconst 0, 1) := by decide +kernel
theorem dX7_mail_90 : decode cX7_mail 90 = .ok (.ireturn, 1) := by decide +kernel
theorem dX7_mail_91 : decode cX7_mail 91 = .ok (.aload_n 0, 1) := by decide +kernel
theorem dX7_mail_92 : decode cX7_mail 92 = .ok (.iload_n 1, 1) := by decide +kernel
theorem dX7_mail_93 : decode cX7_mail 93 = .ok (.iload_n 2, 1) := by decide +kernel
theorem dX7_mail_94 : decode cX7_mail 94 = .ok (.iload_n 3, 1) := by decide +kernel
theorem dX7_mail_95 : decode cX7_mail 95 = .ok (.invokevirtual 137, 3) := by decide +kernel
theorem dX7_mail_98 : decode cX7_mail 98 = .ok (.istore 6, 2) := by decide +kernel
theorem dX7_mail_100 : decode cX7_mail 100 = .ok (.aload_n 0, 1) := by decide +kernel
theorem dX7_mail_101 : decode cX7_mail 101 = .ok (.iload 6, 2) := by decide +kernel
theorem dX7_mail_103 : decode cX7_mail 103 = .ok (.ifCond .ge 16, 3) := by decide +kernel
theorem dX7_mail_106 : decode cX7_mail 106 = .ok (.aload_n 0, 1) := by decide +kernel
theorem dX7_mail_107 : decode cX7_mail 107 = .ok (.getfield 79, 3) := by decide +kernel
theorem dX7_mail_110 : decode cX7_mail 110 = .ok (.bipush 40, 2) := by decide +kernel
theorem dX7_mail_112 : decode cX7_mail 112 = .ok (.if_icmp .ne 7, 3) := by decide +kernel
theorem dX7_mail_115 : decode cX7_mail 115 = .ok (.iconst 3, 1) := by decide +kernel
theorem dX7_mail_116 : decode cX7_mail 116 = .ok (.goto 4, 3) := by decide +kernel
theorem dX7_mail_119 : decode cX7_mail 119 = .ok (.iconst 0, 1) := by decide +kernel
theorem dX7_mail_120 : decode cX7_mail 120 = .ok (.putfield 69, 3) := by decide +kernel
theorem dX7_mail_123 : decode cX7_mail 123 = .ok (.aload_n 0, 1) := by decide +kernel
theorem dX7_mail_124 : decode cX7_mail 124 = .ok (.getfield 69, 3) := by decide +kernel
theorem dX7_mail_127 : decode cX7_mail 127 = .ok (.ifCond .le 5, 3) := by decide +kernel
theorem dX7_mail_130 : decode cX7_mail 130 = .ok (.iconst 0, 1) := by decide +kernel
theorem dX7_mail_131 : decode cX7_mail 131 = .ok (.ireturn, 1) := by decide +kernel
theorem dX7_mail_132 : decode cX7_mail 132 = .ok (.iload 6, 2) := by decide +kernel
theorem dX7_mail_134 : decode cX7_mail 134 = .ok (.ifCond .ge 20, 3) := by decide +kernel
theorem dX7_mail_137 : decode cX7_mail 137 = .ok (.aload_n 0, 1) := by decide +kernel
theorem dX7_mail_138 : decode cX7_mail 138 = .ok (.getfield 79, 3) := by decide +kernel
theorem dX7_mail_141 : decode cX7_mail 141 = .ok (.istore 6, 2) := by decide +kernel
theorem dX7_mail_143 : decode cX7_mail 143 = .ok (.aload_n 0, 1) := by decide +kernel
theorem dX7_mail_144 : decode cX7_mail 144 = .ok (.iload_n 1, 1) := by decide +kernel
theorem dX7_mail_145 : decode cX7_mail 145 = .ok (.iload_n 2, 1) := by decide +kernel
theorem dX7_mail_146 : decode cX7_mail 146 = .ok (.iload 4, 2) := by decide +kernel
theorem dX7_mail_148 : decode cX7_mail 148 = .ok (.invokevirtual 141, 3) := by decide +kernel
theorem dX7_mail_151 : decode cX7_mail 151 = .ok (.goto 9, 3) := by decide +kernel
theorem dX7_mail_154 : decode cX7_mail 154 = .ok (.aload_n 0, 1) := by decide +kernel
theorem dX7_mail_155 : decode cX7_mail 155 = .ok (.iload 6, 2) := by decide +kernel
theorem dX7_mail_157 : decode cX7_mail 157 = .ok (.invokevirtual 145, 3) := by decide +kernel
theorem dX7_mail_160 : decode cX7_mail 160 = .ok (.aload_n 0, 1) := by decide +kernel
theorem dX7_mail_161 : decode cX7_mail 161 = .ok (.getfield 16, 3) := by decide +kernel
theorem dX7_mail_164 : decode cX7_mail 164 = .ok (.aload_n 0, 1) := by decide +kernel
theorem dX7_mail_165 : decode cX7_mail 165 = .ok (.getfield 76, 3) := by decide +kernel
theorem dX7_mail_168 : decode cX7_mail 168 = .ok (.iload 6, 2) := by decide +kernel
theorem dX7_mail_170 : decode cX7_mail 170 = .ok (.iastore, 1) := by decide +kernel
theorem dX7_mail_171 : decode cX7_mail 171 = .ok (.aload_n 0, 1) := by decide +kernel
theorem dX7_mail_172 : decode cX7_mail 172 = .ok (.getfield 19, 3) := by decide +kernel
theorem dX7_mail_175 : decode cX7_mail 175 = .ok (.aload_n 0, 1) := by decide +kernel
theorem dX7_mail_176 : decode cX7_mail 176 = .ok (.getfield 76, 3) := by decide +kernel
theorem dX7_mail_179 : decode cX7_mail 179 = .ok (.iload 5, 2) := by decide +kernel
theorem dX7_mail_181 : decode cX7_mail 181 = .ok (.iastore, 1) := by decide +kernel
theorem dX7_mail_182 : decode cX7_mail 182 = .ok (.aload_n 0, 1) := by decide +kernel
theorem dX7_mail_183 : decode cX7_mail 183 = .ok (.dup, 1) := by decide +kernel
theorem dX7_mail_184 : decode cX7_mail 184 = .ok (.getfield 76, 3) := by decide +kernel
theorem dX7_mail_187 : decode cX7_mail 187 = .ok (.iconst 1, 1) := by decide +kernel
theorem dX7_mail_188 : decode cX7_mail 188 = .ok (.iadd, 1) := by decide +kernel
theorem dX7_mail_189 : decode cX7_mail 189 = .ok (.putfield 76, 3) := by decide +kernel
theorem dX7_mail_192 : decode cX7_mail 192 = .ok (.iload 6, 2) := by decide +kernel
theorem dX7_mail_194 : decode cX7_mail 194 = .ok (.ireturn, 1) := by decide +kernel
theorem dX7_ticketOf_0 : decode cX7_ticketOf 0 = .ok (.aload_n 0, 1) := by decide +kernel
theorem dX7_ticketOf_1 : decode cX7_ticketOf 1 = .ok (.iload_n 1, 1) := by decide +kernel
theorem dX7_ticketOf_2 : decode cX7_ticketOf 2 = .ok (.iconst 0, 1) := by decide +kernel
theorem dX7_ticketOf_3 : decode cX7_ticketOf 3 = .ok (.aload_n 0, 1) := by decide +kernel
theorem dX7_ticketOf_4 : decode cX7_ticketOf 4 = .ok (.getfield 76, 3) := by decide +kernel
theorem dX7_ticketOf_7 : decode cX7_ticketOf 7 = .ok (.iconst 1, 1) := by decide +kernel
theorem dX7_ticketOf_8 : decode cX7_ticketOf 8 = .ok (.isub, 1) := by decide +kernel
theorem dX7_ticketOf_9 : decode cX7_ticketOf 9 = .ok (.invokestatic 104, 3) := by decide +kernel
theorem dX7_ticketOf_12 : decode cX7_ticketOf 12 = .ok (.invokevirtual 112, 3) := by decide +kernel
theorem dX7_ticketOf_15 : decode cX7_ticketOf 15 = .ok (.ifCond .le 7, 3) := by decide +kernel
theorem dX7_ticketOf_18 : decode cX7_ticketOf 18 = .ok (.iconst 0, 1) := by decide +kernel
theorem dX7_ticketOf_19 : decode cX7_ticketOf 19 = .ok (.goto 9, 3) := by decide +kernel
theorem dX7_ticketOf_22 : decode cX7_ticketOf 22 = .ok (.aload_n 0, 1) := by decide +kernel
theorem dX7_ticketOf_23 : decode cX7_ticketOf 23 = .ok (.getfield 16, 3) := by decide +kernel
theorem dX7_ticketOf_26 : decode cX7_ticketOf 26 = .ok (.iload_n 1, 1) := by decide +kernel
theorem dX7_ticketOf_27 : decode cX7_ticketOf 27 = .ok (.iaload, 1) := by decide +kernel
theorem dX7_ticketOf_28 : decode cX7_ticketOf 28 = .ok (.ireturn, 1) := by decide +kernel
theorem dX7_mails_0 : decode cX7_mails 0 = .ok (.aload_n 0, 1) := by decide +kernel
theorem dX7_mails_1 : decode cX7_mails 1 = .ok (.aload_n 0, 1) := by decide +kernel
theorem dX7_mails_2 : decode cX7_mails 2 = .ok (.getfield 76, 3) := by decide +kernel
theorem dX7_mails_5 : decode cX7_mails 5 = .ok (.invokevirtual 120, 3) := by decide +kernel
theorem dX7_mails_8 : decode cX7_mails 8 = .ok (.ireturn, 1) := by decide +kernel
theorem dX7_countOf_0 : decode cX7_countOf 0 = .ok (.iconst 0, 1) := by decide +kernel
theorem dX7_countOf_1 : decode cX7_countOf 1 = .ok (.istore_n 2, 1) := by decide +kernel
theorem dX7_countOf_2 : decode cX7_countOf 2 = .ok (.iconst 0, 1) := by decide +kernel
theorem dX7_countOf_3 : decode cX7_countOf 3 = .ok (.istore_n 3, 1) := by decide +kernel
theorem dX7_countOf_4 : decode cX7_countOf 4 = .ok (.iload_n 3, 1) := by decide +kernel
theorem dX7_countOf_5 : decode cX7_countOf 5 = .ok (.aload_n 0, 1) := by decide +kernel
theorem dX7_countOf_6 : decode cX7_countOf 6 = .ok (.getfield 76, 3) := by decide +kernel
theorem dX7_countOf_9 : decode cX7_countOf 9 = .ok (.if_icmp .ge 27, 3) := by decide +kernel
theorem dX7_countOf_12 : decode cX7_countOf 12 = .ok (.iload_n 2, 1) := by decide +kernel
theorem dX7_countOf_13 : decode cX7_countOf 13 = .ok (.aload_n 0, 1) := by decide +kernel
theorem dX7_countOf_14 : decode cX7_countOf 14 = .ok (.getfield 16, 3) := by decide +kernel
theorem dX7_countOf_17 : decode cX7_countOf 17 = .ok (.iload_n 3, 1) := by decide +kernel
theorem dX7_countOf_18 : decode cX7_countOf 18 = .ok (.iaload, 1) := by decide +kernel
theorem dX7_countOf_19 : decode cX7_countOf 19 = .ok (.iload_n 1, 1) := by decide +kernel
theorem dX7_countOf_20 : decode cX7_countOf 20 = .ok (.if_icmp .ne 7, 3) := by decide +kernel
theorem dX7_countOf_23 : decode cX7_countOf 23 = .ok (.iconst 1, 1) := by decide +kernel
theorem dX7_countOf_24 : decode cX7_countOf 24 = .ok (.goto 4, 3) := by decide +kernel
theorem dX7_countOf_27 : decode cX7_countOf 27 = .ok (.iconst 0, 1) := by decide +kernel
theorem dX7_countOf_28 : decode cX7_countOf 28 = .ok (.iadd, 1) := by decide +kernel
theorem dX7_countOf_29 : decode cX7_countOf 29 = .ok (.istore_n 2, 1) := by decide +kernel
theorem dX7_countOf_30 : decode cX7_countOf 30 = .ok (.iinc 3 1, 3) := by decide +kernel
theorem dX7_countOf_33 : decode cX7_countOf 33 = .ok (.goto (-29), 3) := by decide +kernel
theorem dX7_countOf_36 : decode cX7_countOf 36 = .ok (.iload_n 2, 1) := by decide +kernel
theorem dX7_countOf_37 : decode cX7_countOf 37 = .ok (.ireturn, 1) := by decide +kernel
theorem dX7_mailsOf_0 : decode cX7_mailsOf 0 = .ok (.aload_n 0, 1) := by decide +kernel
theorem dX7_mailsOf_1 : decode cX7_mailsOf 1 = .ok (.aload_n 0, 1) := by decide +kernel
theorem dX7_mailsOf_2 : decode cX7_mailsOf 2 = .ok (.iload_n 1, 1) := by decide +kernel
theorem dX7_mailsOf_3 : decode cX7_mailsOf 3 = .ok (.invokevirtual 149, 3) := by decide +kernel
theorem dX7_mailsOf_6 : decode cX7_mailsOf 6 = .ok (.invokevirtual 112, 3) := by decide +kernel
theorem dX7_mailsOf_9 : decode cX7_mailsOf 9 = .ok (.ifCond .le 7, 3) := by decide +kernel
theorem dX7_mailsOf_12 : decode cX7_mailsOf 12 = .ok (.iconst 0, 1) := by decide +kernel
theorem dX7_mailsOf_13 : decode cX7_mailsOf 13 = .ok (.goto 8, 3) := by decide +kernel
theorem dX7_mailsOf_16 : decode cX7_mailsOf 16 = .ok (.aload_n 0, 1) := by decide +kernel
theorem dX7_mailsOf_17 : decode cX7_mailsOf 17 = .ok (.iload_n 1, 1) := by decide +kernel
theorem dX7_mailsOf_18 : decode cX7_mailsOf 18 = .ok (.invokevirtual 152, 3) := by decide +kernel
theorem dX7_mailsOf_21 : decode cX7_mailsOf 21 = .ok (.ireturn, 1) := by decide +kernel
theorem dX7_mailAt_0 : decode cX7_mailAt 0 = .ok (.aload_n 0, 1) := by decide +kernel
theorem dX7_mailAt_1 : decode cX7_mailAt 1 = .ok (.aload_n 0, 1) := by decide +kernel
theorem dX7_mailAt_2 : decode cX7_mailAt 2 = .ok (.iload_n 1, 1) := by decide +kernel
theorem dX7_mailAt_3 : decode cX7_mailAt 3 = .ok (.invokevirtual 149, 3) := by decide +kernel
theorem dX7_mailAt_6 : decode cX7_mailAt 6 = .ok (.ifCond .ne 7, 3) := by decide +kernel
theorem dX7_mailAt_9 : decode cX7_mailAt 9 = .ok (.iconst 1, 1) := by decide +kernel
theorem dX7_mailAt_10 : decode cX7_mailAt 10 = .ok (.goto 23, 3) := by decide +kernel
theorem dX7_mailAt_13 : decode cX7_mailAt 13 = .ok (.iload_n 2, 1) := by decide +kernel
theorem dX7_mailAt_14 : decode cX7_mailAt 14 = .ok (.iconst 0, 1) := by decide +kernel
theorem dX7_mailAt_15 : decode cX7_mailAt 15 = .ok (.aload_n 0, 1) := by decide +kernel
theorem dX7_mailAt_16 : decode cX7_mailAt 16 = .ok (.iload_n 1, 1) := by decide +kernel
theorem dX7_mailAt_17 : decode cX7_mailAt 17 = .ok (.invokevirtual 152, 3) := by decide +kernel
theorem dX7_mailAt_20 : decode cX7_mailAt 20 = .ok (.iconst 1, 1) := by decide +kernel
theorem dX7_mailAt_21 : decode cX7_mailAt 21 = .ok (.isub, 1) := by decide +kernel
theorem dX7_mailAt_22 : decode cX7_mailAt 22 = .ok (.invokestatic 104, 3) := by decide +kernel
theorem dX7_mailAt_25 : decode cX7_mailAt 25 = .ok (.ifCond .ne 7, 3) := by decide +kernel
theorem dX7_mailAt_28 : decode cX7_mailAt 28 = .ok (.iconst 2, 1) := by decide +kernel
theorem dX7_mailAt_29 : decode cX7_mailAt 29 = .ok (.goto 4, 3) := by decide +kernel
theorem dX7_mailAt_32 : decode cX7_mailAt 32 = .ok (.iconst 0, 1) := by decide +kernel
theorem dX7_mailAt_33 : decode cX7_mailAt 33 = .ok (.putfield 69, 3) := by decide +kernel
theorem dX7_mailAt_36 : decode cX7_mailAt 36 = .ok (.aload_n 0, 1) := by decide +kernel
theorem dX7_mailAt_37 : decode cX7_mailAt 37 = .ok (.getfield 69, 3) := by decide +kernel
theorem dX7_mailAt_40 : decode cX7_mailAt 40 = .ok (.ifCond .le 5, 3) := by decide +kernel
theorem dX7_mailAt_43 : decode cX7_mailAt 43 = .ok (.iconst 0, 1) := by decide +kernel
theorem dX7_mailAt_44 : decode cX7_mailAt 44 = .ok (.ireturn, 1) := by decide +kernel
theorem dX7_mailAt_45 : decode cX7_mailAt 45 = .ok (.iconst (-1), 1) := by decide +kernel
theorem dX7_mailAt_46 : decode cX7_mailAt 46 = .ok (.istore_n 3, 1) := by decide +kernel
theorem dX7_mailAt_47 : decode cX7_mailAt 47 = .ok (.iload_n 2, 1) := by decide +kernel
theorem dX7_mailAt_48 : decode cX7_mailAt 48 = .ok (.istore 4, 2) := by decide +kernel
theorem dX7_mailAt_50 : decode cX7_mailAt 50 = .ok (.iload 4, 2) := by decide +kernel
theorem dX7_mailAt_52 : decode cX7_mailAt 52 = .ok (.ifCond .lt 28, 3) := by decide +kernel
theorem dX7_mailAt_55 : decode cX7_mailAt 55 = .ok (.iinc 3 1, 3) := by decide +kernel
theorem dX7_mailAt_58 : decode cX7_mailAt 58 = .ok (.aload_n 0, 1) := by decide +kernel
theorem dX7_mailAt_59 : decode cX7_mailAt 59 = .ok (.getfield 16, 3) := by decide +kernel
theorem dX7_mailAt_62 : decode cX7_mailAt 62 = .ok (.iload_n 3, 1) := by decide +kernel
theorem dX7_mailAt_63 : decode cX7_mailAt 63 = .ok (.iaload, 1) := by decide +kernel
theorem dX7_mailAt_64 : decode cX7_mailAt 64 = .ok (.iload_n 1, 1) := by decide +kernel
theorem dX7_mailAt_65 : decode cX7_mailAt 65 = .ok (.if_icmp .eq 9, 3) := by decide +kernel
theorem dX7_mailAt_68 : decode cX7_mailAt 68 = .ok (.iinc 3 1, 3) := by decide +kernel
theorem dX7_mailAt_71 : decode cX7_mailAt 71 = .ok (.goto (-13), 3) := by decide +kernel
theorem dX7_mailAt_74 : decode cX7_mailAt 74 = .ok (.iinc 4 (-1), 3) := by decide +kernel
theorem dX7_mailAt_77 : decode cX7_mailAt 77 = .ok (.goto (-27), 3) := by decide +kernel
theorem dX7_mailAt_80 : decode cX7_mailAt 80 = .ok (.iload_n 3, 1) := by decide +kernel
theorem dX7_mailAt_81 : decode cX7_mailAt 81 = .ok (.ireturn, 1) := by decide +kernel
theorem dX7_tickets_0 : decode cX7_tickets 0 = .ok (.aload_n 0, 1) := by decide +kernel
theorem dX7_tickets_1 : decode cX7_tickets 1 = .ok (.aload_n 0, 1) := by decide +kernel
theorem dX7_tickets_2 : decode cX7_tickets 2 = .ok (.getfield 79, 3) := by decide +kernel
theorem dX7_tickets_5 : decode cX7_tickets 5 = .ok (.invokevirtual 120, 3) := by decide +kernel
theorem dX7_tickets_8 : decode cX7_tickets 8 = .ok (.ireturn, 1) := by decide +kernel
theorem dX7_stateOf_0 : decode cX7_stateOf 0 = .ok (.aload_n 0, 1) := by decide +kernel
theorem dX7_stateOf_1 : decode cX7_stateOf 1 = .ok (.aload_n 0, 1) := by decide +kernel
theorem dX7_stateOf_2 : decode cX7_stateOf 2 = .ok (.iload_n 1, 1) := by decide +kernel
theorem dX7_stateOf_3 : decode cX7_stateOf 3 = .ok (.invokevirtual 149, 3) := by decide +kernel
theorem dX7_stateOf_6 : decode cX7_stateOf 6 = .ok (.invokevirtual 112, 3) := by decide +kernel
theorem dX7_stateOf_9 : decode cX7_stateOf 9 = .ok (.ifCond .le 8, 3) := by decide +kernel
theorem dX7_stateOf_12 : decode cX7_stateOf 12 = .ok (.bipush 63, 2) := by decide +kernel
theorem dX7_stateOf_14 : decode cX7_stateOf 14 = .ok (.goto 9, 3) := by decide +kernel
theorem dX7_stateOf_17 : decode cX7_stateOf 17 = .ok (.aload_n 0, 1) := by decide +kernel
theorem dX7_stateOf_18 : decode cX7_stateOf 18 = .ok (.getfield 49, 3) := by decide +kernel
theorem dX7_stateOf_21 : decode cX7_stateOf 21 = .ok (.iload_n 1, 1) := by decide +kernel
theorem dX7_stateOf_22 : decode cX7_stateOf 22 = .ok (.caload, 1) := by decide +kernel
theorem dX7_stateOf_23 : decode cX7_stateOf 23 = .ok (.ireturn, 1) := by decide +kernel
theorem dX7_mergedInto_0 : decode cX7_mergedInto 0 = .ok (.aload_n 0, 1) := by decide +kernel
theorem dX7_mergedInto_1 : decode cX7_mergedInto 1 = .ok (.aload_n 0, 1) := by decide +kernel
theorem dX7_mergedInto_2 : decode cX7_mergedInto 2 = .ok (.iload_n 1, 1) := by decide +kernel
theorem dX7_mergedInto_3 : decode cX7_mergedInto 3 = .ok (.invokevirtual 149, 3) := by decide +kernel
theorem dX7_mergedInto_6 : decode cX7_mergedInto 6 = .ok (.ifCond .ne 7, 3) := by decide +kernel
theorem dX7_mergedInto_9 : decode cX7_mergedInto 9 = .ok (.iconst 1, 1) := by decide +kernel
theorem dX7_mergedInto_10 : decode cX7_mergedInto 10 = .ok (.goto 17, 3) := by decide +kernel
theorem dX7_mergedInto_13 : decode cX7_mergedInto 13 = .ok (.aload_n 0, 1) := by decide +kernel
theorem dX7_mergedInto_14 : decode cX7_mergedInto 14 = .ok (.getfield 43, 3) := by decide +kernel
theorem dX7_mergedInto_17 : decode cX7_mergedInto 17 = .ok (.iload_n 1, 1) := by decide +kernel
theorem dX7_mergedInto_18 : decode cX7_mergedInto 18 = .ok (.iaload, 1) := by decide +kernel
theorem dX7_mergedInto_19 : decode cX7_mergedInto 19 = .ok (.ifCond .ge 7, 3) := by decide +kernel
theorem dX7_mergedInto_22 : decode cX7_mergedInto 22 = .ok (.iconst 2, 1) := by decide +kernel
theorem dX7_mergedInto_23 : decode cX7_mergedInto 23 = .ok (.goto 4, 3) := by decide +kernel
theorem dX7_mergedInto_26 : decode cX7_mergedInto 26 = .ok (.iconst 0, 1) := by decide +kernel
theorem dX7_mergedInto_27 : decode cX7_mergedInto 27 = .ok (.putfield 69, 3) := by decide +kernel
theorem dX7_mergedInto_30 : decode cX7_mergedInto 30 = .ok (.aload_n 0, 1) := by decide +kernel
theorem dX7_mergedInto_31 : decode cX7_mergedInto 31 = .ok (.getfield 69, 3) := by decide +kernel
theorem dX7_mergedInto_34 : decode cX7_mergedInto 34 = .ok (.ifCond .le 5, 3) := by decide +kernel
theorem dX7_mergedInto_37 : decode cX7_mergedInto 37 = .ok (.iconst 0, 1) := by decide +kernel
theorem dX7_mergedInto_38 : decode cX7_mergedInto 38 = .ok (.ireturn, 1) := by decide +kernel
theorem dX7_mergedInto_39 : decode cX7_mergedInto 39 = .ok (.iload_n 1, 1) := by decide +kernel
theorem dX7_mergedInto_40 : decode cX7_mergedInto 40 = .ok (.istore_n 2, 1) := by decide +kernel
theorem dX7_mergedInto_41 : decode cX7_mergedInto 41 = .ok (.aload_n 0, 1) := by decide +kernel
theorem dX7_mergedInto_42 : decode cX7_mergedInto 42 = .ok (.getfield 43, 3) := by decide +kernel
theorem dX7_mergedInto_45 : decode cX7_mergedInto 45 = .ok (.iload_n 2, 1) := by decide +kernel
theorem dX7_mergedInto_46 : decode cX7_mergedInto 46 = .ok (.iaload, 1) := by decide +kernel
theorem dX7_mergedInto_47 : decode cX7_mergedInto 47 = .ok (.ifCond .lt 13, 3) := by decide +kernel
theorem dX7_mergedInto_50 : decode cX7_mergedInto 50 = .ok (.aload_n 0, 1) := by decide +kernel
theorem dX7_mergedInto_51 : decode cX7_mergedInto 51 = .ok (.getfield 43, 3) := by decide +kernel
theorem dX7_mergedInto_54 : decode cX7_mergedInto 54 = .ok (.iload_n 2, 1) := by decide +kernel
theorem dX7_mergedInto_55 : decode cX7_mergedInto 55 = .ok (.iaload, 1) := by decide +kernel
theorem dX7_mergedInto_56 : decode cX7_mergedInto 56 = .ok (.istore_n 2, 1) := by decide +kernel
theorem dX7_mergedInto_57 : decode cX7_mergedInto 57 = .ok (.goto (-16), 3) := by decide +kernel
theorem dX7_mergedInto_60 : decode cX7_mergedInto 60 = .ok (.iload_n 2, 1) := by decide +kernel
theorem dX7_mergedInto_61 : decode cX7_mergedInto 61 = .ok (.ireturn, 1) := by decide +kernel
theorem dX7_hasSkill_0 : decode cX7_hasSkill 0 = .ok (.aload_n 0, 1) := by decide +kernel
theorem dX7_hasSkill_1 : decode cX7_hasSkill 1 = .ok (.getfield 60, 3) := by decide +kernel
theorem dX7_hasSkill_4 : decode cX7_hasSkill 4 = .ok (.iload_n 1, 1) := by decide +kernel
theorem dX7_hasSkill_5 : decode cX7_hasSkill 5 = .ok (.iaload, 1) := by decide +kernel
theorem dX7_hasSkill_6 : decode cX7_hasSkill 6 = .ok (.iload_n 2, 1) := by decide +kernel
theorem dX7_hasSkill_7 : decode cX7_hasSkill 7 = .ok (.ishr, 1) := by decide +kernel
theorem dX7_hasSkill_8 : decode cX7_hasSkill 8 = .ok (.iconst 1, 1) := by decide +kernel
theorem dX7_hasSkill_9 : decode cX7_hasSkill 9 = .ok (.iand, 1) := by decide +kernel
theorem dX7_hasSkill_10 : decode cX7_hasSkill 10 = .ok (.iconst 1, 1) := by decide +kernel
theorem dX7_hasSkill_11 : decode cX7_hasSkill 11 = .ok (.if_icmp .ne 7, 3) := by decide +kernel
theorem dX7_hasSkill_14 : decode cX7_hasSkill 14 = .ok (.iconst 1, 1) := by decide +kernel
theorem dX7_hasSkill_15 : decode cX7_hasSkill 15 = .ok (.goto 4, 3) := by decide +kernel
theorem dX7_hasSkill_18 : decode cX7_hasSkill 18 = .ok (.iconst 0, 1) := by decide +kernel
theorem dX7_hasSkill_19 : decode cX7_hasSkill 19 = .ok (.ireturn, 1) := by decide +kernel
theorem dX7_setTopic_0 : decode cX7_setTopic 0 = .ok (.aload_n 0, 1) := by decide +kernel
theorem dX7_setTopic_1 : decode cX7_setTopic 1 = .ok (.aload_n 0, 1) := by decide +kernel
theorem dX7_setTopic_2 : decode cX7_setTopic 2 = .ok (.iload_n 1, 1) := by decide +kernel
theorem dX7_setTopic_3 : decode cX7_setTopic 3 = .ok (.invokevirtual 149, 3) := by decide +kernel
theorem dX7_setTopic_6 : decode cX7_setTopic 6 = .ok (.ifCond .ne 7, 3) := by decide +kernel
theorem dX7_setTopic_9 : decode cX7_setTopic 9 = .ok (.iconst 1, 1) := by decide +kernel
theorem dX7_setTopic_10 : decode cX7_setTopic 10 = .ok (.goto 29, 3) := by decide +kernel
theorem dX7_setTopic_13 : decode cX7_setTopic 13 = .ok (.iload_n 2, 1) := by decide +kernel
theorem dX7_setTopic_14 : decode cX7_setTopic 14 = .ok (.iconst 0, 1) := by decide +kernel
theorem dX7_setTopic_15 : decode cX7_setTopic 15 = .ok (.iconst 5, 1) := by decide +kernel
theorem dX7_setTopic_16 : decode cX7_setTopic 16 = .ok (.invokestatic 104, 3) := by decide +kernel
theorem dX7_setTopic_19 : decode cX7_setTopic 19 = .ok (.ifCond .ne 7, 3) := by decide +kernel
theorem dX7_setTopic_22 : decode cX7_setTopic 22 = .ok (.iconst 2, 1) := by decide +kernel
theorem dX7_setTopic_23 : decode cX7_setTopic 23 = .ok (.goto 16, 3) := by decide +kernel
theorem dX7_setTopic_26 : decode cX7_setTopic 26 = .ok (.aload_n 0, 1) := by decide +kernel
theorem dX7_setTopic_27 : decode cX7_setTopic 27 = .ok (.iload_n 1, 1) := by decide +kernel
theorem dX7_setTopic_28 : decode cX7_setTopic 28 = .ok (.invokevirtual 123, 3) := by decide +kernel
theorem dX7_setTopic_31 : decode cX7_setTopic 31 = .ok (.ifCond .ne 7, 3) := by decide +kernel
theorem dX7_setTopic_34 : decode cX7_setTopic 34 = .ok (.iconst 3, 1) := by decide +kernel
theorem dX7_setTopic_35 : decode cX7_setTopic 35 = .ok (.goto 4, 3) := by decide +kernel
theorem dX7_setTopic_38 : decode cX7_setTopic 38 = .ok (.iconst 0, 1) := by decide +kernel
theorem dX7_setTopic_39 : decode cX7_setTopic 39 = .ok (.putfield 69, 3) := by decide +kernel
theorem dX7_setTopic_42 : decode cX7_setTopic 42 = .ok (.aload_n 0, 1) := by decide +kernel
theorem dX7_setTopic_43 : decode cX7_setTopic 43 = .ok (.getfield 69, 3) := by decide +kernel
theorem dX7_setTopic_46 : decode cX7_setTopic 46 = .ok (.ifCond .le 5, 3) := by decide +kernel
theorem dX7_setTopic_49 : decode cX7_setTopic 49 = .ok (.iconst 0, 1) := by decide +kernel
theorem dX7_setTopic_50 : decode cX7_setTopic 50 = .ok (.ireturn, 1) := by decide +kernel
theorem dX7_setTopic_51 : decode cX7_setTopic 51 = .ok (.aload_n 0, 1) := by decide +kernel
theorem dX7_setTopic_52 : decode cX7_setTopic 52 = .ok (.getfield 28, 3) := by decide +kernel
theorem dX7_setTopic_55 : decode cX7_setTopic 55 = .ok (.iload_n 1, 1) := by decide +kernel
theorem dX7_setTopic_56 : decode cX7_setTopic 56 = .ok (.iaload, 1) := by decide +kernel
theorem dX7_setTopic_57 : decode cX7_setTopic 57 = .ok (.istore_n 3, 1) := by decide +kernel
theorem dX7_setTopic_58 : decode cX7_setTopic 58 = .ok (.aload_n 0, 1) := by decide +kernel
theorem dX7_setTopic_59 : decode cX7_setTopic 59 = .ok (.getfield 28, 3) := by decide +kernel
theorem dX7_setTopic_62 : decode cX7_setTopic 62 = .ok (.iload_n 1, 1) := by decide +kernel
theorem dX7_setTopic_63 : decode cX7_setTopic 63 = .ok (.iload_n 2, 1) := by decide +kernel
theorem dX7_setTopic_64 : decode cX7_setTopic 64 = .ok (.iastore, 1) := by decide +kernel
theorem dX7_setTopic_65 : decode cX7_setTopic 65 = .ok (.aload_n 0, 1) := by decide +kernel
theorem dX7_setTopic_66 : decode cX7_setTopic 66 = .ok (.getfield 34, 3) := by decide +kernel
theorem dX7_setTopic_69 : decode cX7_setTopic 69 = .ok (.iload_n 1, 1) := by decide +kernel
theorem dX7_setTopic_70 : decode cX7_setTopic 70 = .ok (.iaload, 1) := by decide +kernel
theorem dX7_setTopic_71 : decode cX7_setTopic 71 = .ok (.ifCond .lt 24, 3) := by decide +kernel
theorem dX7_setTopic_74 : decode cX7_setTopic 74 = .ok (.aload_n 0, 1) := by decide +kernel
theorem dX7_setTopic_75 : decode cX7_setTopic 75 = .ok (.aload_n 0, 1) := by decide +kernel
theorem dX7_setTopic_76 : decode cX7_setTopic 76 = .ok (.getfield 34, 3) := by decide +kernel
theorem dX7_setTopic_79 : decode cX7_setTopic 79 = .ok (.iload_n 1, 1) := by decide +kernel
theorem dX7_setTopic_80 : decode cX7_setTopic 80 = .ok (.iaload, 1) := by decide +kernel
theorem dX7_setTopic_81 : decode cX7_setTopic 81 = .ok (.iload_n 2, 1) := by decide +kernel
theorem dX7_setTopic_82 : decode cX7_setTopic 82 = .ok (.invokevirtual 155, 3) := by decide +kernel
theorem dX7_setTopic_85 : decode cX7_setTopic 85 = .ok (.ifCond .ne 10, 3) := by decide +kernel
theorem dX7_setTopic_88 : decode cX7_setTopic 88 = .ok (.aload_n 0, 1) := by decide +kernel
theorem dX7_setTopic_89 : decode cX7_setTopic 89 = .ok (.getfield 34, 3) := by decide +kernel
theorem dX7_setTopic_92 : decode cX7_setTopic 92 = .ok (.iload_n 1, 1) := by decide +kernel
theorem dX7_setTopic_93 : decode cX7_setTopic 93 = .ok (.iconst (-1), 1) := by decide +kernel
theorem dX7_setTopic_94 : decode cX7_setTopic 94 = .ok (.iastore, 1) := by decide +kernel
theorem dX7_setTopic_95 : decode cX7_setTopic 95 = .ok (.iload_n 3, 1) := by decide +kernel
theorem dX7_setTopic_96 : decode cX7_setTopic 96 = .ok (.ireturn, 1) := by decide +kernel
theorem dX7_wrongLive_0 : decode cX7_wrongLive 0 = .ok (.aload_n 0, 1) := by decide +kernel
theorem dX7_wrongLive_1 : decode cX7_wrongLive 1 = .ok (.iload_n 1, 1) := by decide +kernel
theorem dX7_wrongLive_2 : decode cX7_wrongLive 2 = .ok (.invokevirtual 149, 3) := by decide +kernel
theorem dX7_wrongLive_5 : decode cX7_wrongLive 5 = .ok (.ifCond .ne 7, 3) := by decide +kernel
theorem dX7_wrongLive_8 : decode cX7_wrongLive 8 = .ok (.iconst 1, 1) := by decide +kernel
theorem dX7_wrongLive_9 : decode cX7_wrongLive 9 = .ok (.goto 16, 3) := by decide +kernel
theorem dX7_wrongLive_12 : decode cX7_wrongLive 12 = .ok (.aload_n 0, 1) := by decide +kernel
theorem dX7_wrongLive_13 : decode cX7_wrongLive 13 = .ok (.iload_n 1, 1) := by decide +kernel
theorem dX7_wrongLive_14 : decode cX7_wrongLive 14 = .ok (.invokevirtual 123, 3) := by decide +kernel
theorem dX7_wrongLive_17 : decode cX7_wrongLive 17 = .ok (.ifCond .ne 7, 3) := by decide +kernel
theorem dX7_wrongLive_20 : decode cX7_wrongLive 20 = .ok (.iconst 2, 1) := by decide +kernel
theorem dX7_wrongLive_21 : decode cX7_wrongLive 21 = .ok (.goto 4, 3) := by decide +kernel
theorem dX7_wrongLive_24 : decode cX7_wrongLive 24 = .ok (.iconst 0, 1) := by decide +kernel
theorem dX7_wrongLive_25 : decode cX7_wrongLive 25 = .ok (.ireturn, 1) := by decide +kernel
theorem dX7_clock_0 : decode cX7_clock 0 = .ok (.aload_n 0, 1) := by decide +kernel
theorem dX7_clock_1 : decode cX7_clock 1 = .ok (.aload_n 0, 1) := by decide +kernel
theorem dX7_clock_2 : decode cX7_clock 2 = .ok (.iload_n 1, 1) := by decide +kernel
theorem dX7_clock_3 : decode cX7_clock 3 = .ok (.invokevirtual 159, 3) := by decide +kernel
theorem dX7_clock_6 : decode cX7_clock 6 = .ok (.putfield 69, 3) := by decide +kernel
theorem dX7_clock_9 : decode cX7_clock 9 = .ok (.aload_n 0, 1) := by decide +kernel
theorem dX7_clock_10 : decode cX7_clock 10 = .ok (.getfield 69, 3) := by decide +kernel
theorem dX7_clock_13 : decode cX7_clock 13 = .ok (.ifCond .le 7, 3) := by decide +kernel
theorem dX7_clock_16 : decode cX7_clock 16 = .ok (.iconst 0, 1) := by decide +kernel
theorem dX7_clock_17 : decode cX7_clock 17 = .ok (.goto 9, 3) := by decide +kernel
theorem dX7_clock_20 : decode cX7_clock 20 = .ok (.aload_n 0, 1) := by decide +kernel
theorem dX7_clock_21 : decode cX7_clock 21 = .ok (.getfield 31, 3) := by decide +kernel
theorem dX7_clock_24 : decode cX7_clock 24 = .ok (.iload_n 1, 1) := by decide +kernel
theorem dX7_clock_25 : decode cX7_clock 25 = .ok (.iaload, 1) := by decide +kernel
theorem dX7_clock_26 : decode cX7_clock 26 = .ok (.ireturn, 1) := by decide +kernel
theorem dX7_leftOf_0 : decode cX7_leftOf 0 = .ok (.aload_n 0, 1) := by decide +kernel
theorem dX7_leftOf_1 : decode cX7_leftOf 1 = .ok (.aload_n 0, 1) := by decide +kernel
theorem dX7_leftOf_2 : decode cX7_leftOf 2 = .ok (.iload_n 1, 1) := by decide +kernel
theorem dX7_leftOf_3 : decode cX7_leftOf 3 = .ok (.invokevirtual 159, 3) := by decide +kernel
theorem dX7_leftOf_6 : decode cX7_leftOf 6 = .ok (.putfield 69, 3) := by decide +kernel
theorem dX7_leftOf_9 : decode cX7_leftOf 9 = .ok (.aload_n 0, 1) := by decide +kernel
theorem dX7_leftOf_10 : decode cX7_leftOf 10 = .ok (.getfield 69, 3) := by decide +kernel
theorem dX7_leftOf_13 : decode cX7_leftOf 13 = .ok (.ifCond .le 7, 3) := by decide +kernel
theorem dX7_leftOf_16 : decode cX7_leftOf 16 = .ok (.iconst 0, 1) := by decide +kernel
theorem dX7_leftOf_17 : decode cX7_leftOf 17 = .ok (.goto 8, 3) := by decide +kernel
theorem dX7_leftOf_20 : decode cX7_leftOf 20 = .ok (.aload_n 0, 1) := by decide +kernel
theorem dX7_leftOf_21 : decode cX7_leftOf 21 = .ok (.iload_n 1, 1) := by decide +kernel
theorem dX7_leftOf_22 : decode cX7_leftOf 22 = .ok (.invokevirtual 108, 3) := by decide +kernel
theorem dX7_leftOf_25 : decode cX7_leftOf 25 = .ok (.ireturn, 1) := by decide +kernel
theorem dX7_isBreached_0 : decode cX7_isBreached 0 = .ok (.aload_n 0, 1) := by decide +kernel
theorem dX7_isBreached_1 : decode cX7_isBreached 1 = .ok (.aload_n 0, 1) := by decide +kernel
theorem dX7_isBreached_2 : decode cX7_isBreached 2 = .ok (.iload_n 1, 1) := by decide +kernel
theorem dX7_isBreached_3 : decode cX7_isBreached 3 = .ok (.invokevirtual 149, 3) := by decide +kernel
theorem dX7_isBreached_6 : decode cX7_isBreached 6 = .ok (.invokevirtual 112, 3) := by decide +kernel
theorem dX7_isBreached_9 : decode cX7_isBreached 9 = .ok (.ifCond .ne 24, 3) := by decide +kernel
theorem dX7_isBreached_12 : decode cX7_isBreached 12 = .ok (.aload_n 0, 1) := by decide +kernel
theorem dX7_isBreached_13 : decode cX7_isBreached 13 = .ok (.iload_n 1, 1) := by decide +kernel
theorem dX7_isBreached_14 : decode cX7_isBreached 14 = .ok (.invokevirtual 123, 3) := by decide +kernel
theorem dX7_isBreached_17 : decode cX7_isBreached 17 = .ok (.ifCond .eq 16, 3) := by decide +kernel
theorem dX7_isBreached_20 : decode cX7_isBreached 20 = .ok (.aload_n 0, 1) := by decide +kernel
theorem dX7_isBreached_21 : decode cX7_isBreached 21 = .ok (.getfield 53, 3) := by decide +kernel
theorem dX7_isBreached_24 : decode cX7_isBreached 24 = .ok (.iload_n 1, 1) := by decide +kernel
theorem dX7_isBreached_25 : decode cX7_isBreached 25 = .ok (.baload, 1) := by decide +kernel
theorem dX7_isBreached_26 : decode cX7_isBreached 26 = .ok (.ifCond .eq 7, 3) := by decide +kernel
theorem dX7_isBreached_29 : decode cX7_isBreached 29 = .ok (.iconst 1, 1) := by decide +kernel
theorem dX7_isBreached_30 : decode cX7_isBreached 30 = .ok (.goto 4, 3) := by decide +kernel
theorem dX7_isBreached_33 : decode cX7_isBreached 33 = .ok (.iconst 0, 1) := by decide +kernel
theorem dX7_isBreached_34 : decode cX7_isBreached 34 = .ok (.ireturn, 1) := by decide +kernel
theorem dX7_addAgent_0 : decode cX7_addAgent 0 = .ok (.aload_n 0, 1) := by decide +kernel
theorem dX7_addAgent_1 : decode cX7_addAgent 1 = .ok (.iload_n 1, 1) := by decide +kernel
theorem dX7_addAgent_2 : decode cX7_addAgent 2 = .ok (.iconst 0, 1) := by decide +kernel
theorem dX7_addAgent_3 : decode cX7_addAgent 3 = .ok (.bipush 63, 2) := by decide +kernel
theorem dX7_addAgent_5 : decode cX7_addAgent 5 = .ok (.invokestatic 104, 3) := by decide +kernel
theorem dX7_addAgent_8 : decode cX7_addAgent 8 = .ok (.ifCond .ne 7, 3) := by decide +kernel
theorem dX7_addAgent_11 : decode cX7_addAgent 11 = .ok (.iconst 1, 1) := by decide +kernel
theorem dX7_addAgent_12 : decode cX7_addAgent 12 = .ok (.goto 17, 3) := by decide +kernel
theorem dX7_addAgent_15 : decode cX7_addAgent 15 = .ok (.aload_n 0, 1) := by decide +kernel
theorem dX7_addAgent_16 : decode cX7_addAgent 16 = .ok (.getfield 82, 3) := by decide +kernel
theorem dX7_addAgent_19 : decode cX7_addAgent 19 = .ok (.bipush 6, 2) := by decide +kernel
theorem dX7_addAgent_21 : decode cX7_addAgent 21 = .ok (.if_icmp .ne 7, 3) := by decide +kernel
theorem dX7_addAgent_24 : decode cX7_addAgent 24 = .ok (.iconst 2, 1) := by decide +kernel
theorem dX7_addAgent_25 : decode cX7_addAgent 25 = .ok (.goto 4, 3) := by decide +kernel
theorem dX7_addAgent_28 : decode cX7_addAgent 28 = .ok (.iconst 0, 1) := by decide +kernel
theorem dX7_addAgent_29 : decode cX7_addAgent 29 = .ok (.putfield 69, 3) := by decide +kernel
theorem dX7_addAgent_32 : decode cX7_addAgent 32 = .ok (.aload_n 0, 1) := by decide +kernel
theorem dX7_addAgent_33 : decode cX7_addAgent 33 = .ok (.getfield 69, 3) := by decide +kernel
theorem dX7_addAgent_36 : decode cX7_addAgent 36 = .ok (.ifCond .le 5, 3) := by decide +kernel
theorem dX7_addAgent_39 : decode cX7_addAgent 39 = .ok (.iconst 0, 1) := by decide +kernel
theorem dX7_addAgent_40 : decode cX7_addAgent 40 = .ok (.ireturn, 1) := by decide +kernel
theorem dX7_addAgent_41 : decode cX7_addAgent 41 = .ok (.aload_n 0, 1) := by decide +kernel
theorem dX7_addAgent_42 : decode cX7_addAgent 42 = .ok (.getfield 60, 3) := by decide +kernel
theorem dX7_addAgent_45 : decode cX7_addAgent 45 = .ok (.aload_n 0, 1) := by decide +kernel
theorem dX7_addAgent_46 : decode cX7_addAgent 46 = .ok (.getfield 82, 3) := by decide +kernel
theorem dX7_addAgent_49 : decode cX7_addAgent 49 = .ok (.iload_n 1, 1) := by decide +kernel
theorem dX7_addAgent_50 : decode cX7_addAgent 50 = .ok (.iastore, 1) := by decide +kernel
theorem dX7_addAgent_51 : decode cX7_addAgent 51 = .ok (.aload_n 0, 1) := by decide +kernel
theorem dX7_addAgent_52 : decode cX7_addAgent 52 = .ok (.dup, 1) := by decide +kernel
theorem dX7_addAgent_53 : decode cX7_addAgent 53 = .ok (.getfield 82, 3) := by decide +kernel
theorem dX7_addAgent_56 : decode cX7_addAgent 56 = .ok (.iconst 1, 1) := by decide +kernel
theorem dX7_addAgent_57 : decode cX7_addAgent 57 = .ok (.iadd, 1) := by decide +kernel
theorem dX7_addAgent_58 : decode cX7_addAgent 58 = .ok (.putfield 82, 3) := by decide +kernel
theorem dX7_addAgent_61 : decode cX7_addAgent 61 = .ok (.aload_n 0, 1) := by decide +kernel
theorem dX7_addAgent_62 : decode cX7_addAgent 62 = .ok (.getfield 82, 3) := by decide +kernel
theorem dX7_addAgent_65 : decode cX7_addAgent 65 = .ok (.iconst 1, 1) := by decide +kernel
theorem dX7_addAgent_66 : decode cX7_addAgent 66 = .ok (.isub, 1) := by decide +kernel
theorem dX7_addAgent_67 : decode cX7_addAgent 67 = .ok (.ireturn, 1) := by decide +kernel
theorem dX7_learn_0 : decode cX7_learn 0 = .ok (.aload_n 0, 1) := by decide +kernel
theorem dX7_learn_1 : decode cX7_learn 1 = .ok (.aload_n 0, 1) := by decide +kernel
theorem dX7_learn_2 : decode cX7_learn 2 = .ok (.iload_n 1, 1) := by decide +kernel
theorem dX7_learn_3 : decode cX7_learn 3 = .ok (.invokevirtual 162, 3) := by decide +kernel
theorem dX7_learn_6 : decode cX7_learn 6 = .ok (.ifCond .ne 7, 3) := by decide +kernel
theorem dX7_learn_9 : decode cX7_learn 9 = .ok (.iconst 1, 1) := by decide +kernel
theorem dX7_learn_10 : decode cX7_learn 10 = .ok (.goto 30, 3) := by decide +kernel
theorem dX7_learn_13 : decode cX7_learn 13 = .ok (.iload_n 2, 1) := by decide +kernel
theorem dX7_learn_14 : decode cX7_learn 14 = .ok (.iconst 0, 1) := by decide +kernel
theorem dX7_learn_15 : decode cX7_learn 15 = .ok (.iconst 5, 1) := by decide +kernel
theorem dX7_learn_16 : decode cX7_learn 16 = .ok (.invokestatic 104, 3) := by decide +kernel
theorem dX7_learn_19 : decode cX7_learn 19 = .ok (.ifCond .ne 7, 3) := by decide +kernel
theorem dX7_learn_22 : decode cX7_learn 22 = .ok (.iconst 2, 1) := by decide +kernel
theorem dX7_learn_23 : decode cX7_learn 23 = .ok (.goto 17, 3) := by decide +kernel
theorem dX7_learn_26 : decode cX7_learn 26 = .ok (.aload_n 0, 1) := by decide +kernel
theorem dX7_learn_27 : decode cX7_learn 27 = .ok (.iload_n 1, 1) := by decide +kernel
theorem dX7_learn_28 : decode cX7_learn 28 = .ok (.iload_n 2, 1) := by decide +kernel
theorem dX7_learn_29 : decode cX7_learn 29 = .ok (.invokevirtual 155, 3) := by decide +kernel
theorem dX7_learn_32 : decode cX7_learn 32 = .ok (.ifCond .eq 7, 3) := by decide +kernel
theorem dX7_learn_35 : decode cX7_learn 35 = .ok (.iconst 3, 1) := by decide +kernel
theorem dX7_learn_36 : decode cX7_learn 36 = .ok (.goto 4, 3) := by decide +kernel
theorem dX7_learn_39 : decode cX7_learn 39 = .ok (.iconst 0, 1) := by decide +kernel
theorem dX7_learn_40 : decode cX7_learn 40 = .ok (.putfield 69, 3) := by decide +kernel
theorem dX7_learn_43 : decode cX7_learn 43 = .ok (.aload_n 0, 1) := by decide +kernel
theorem dX7_learn_44 : decode cX7_learn 44 = .ok (.getfield 69, 3) := by decide +kernel
theorem dX7_learn_47 : decode cX7_learn 47 = .ok (.ifCond .le 5, 3) := by decide +kernel
theorem dX7_learn_50 : decode cX7_learn 50 = .ok (.iconst 0, 1) := by decide +kernel
theorem dX7_learn_51 : decode cX7_learn 51 = .ok (.ireturn, 1) := by decide +kernel
theorem dX7_learn_52 : decode cX7_learn 52 = .ok (.aload_n 0, 1) := by decide +kernel
theorem dX7_learn_53 : decode cX7_learn 53 = .ok (.getfield 60, 3) := by decide +kernel
theorem dX7_learn_56 : decode cX7_learn 56 = .ok (.iload_n 1, 1) := by decide +kernel
theorem dX7_learn_57 : decode cX7_learn 57 = .ok (.dup2, 1) := by decide +kernel
theorem dX7_learn_58 : decode cX7_learn 58 = .ok (.iaload, 1) := by decide +kernel
theorem dX7_learn_59 : decode cX7_learn 59 = .ok (.iconst 1, 1) := by decide +kernel
theorem dX7_learn_60 : decode cX7_learn 60 = .ok (.iload_n 2, 1) := by decide +kernel
theorem dX7_learn_61 : decode cX7_learn 61 = .ok (.ishl, 1) := by decide +kernel
theorem dX7_learn_62 : decode cX7_learn 62 = .ok (.ior, 1) := by decide +kernel
theorem dX7_learn_63 : decode cX7_learn 63 = .ok (.iastore, 1) := by decide +kernel
theorem dX7_learn_64 : decode cX7_learn 64 = .ok (.aload_n 0, 1) := by decide +kernel
theorem dX7_learn_65 : decode cX7_learn 65 = .ok (.getfield 60, 3) := by decide +kernel
theorem dX7_learn_68 : decode cX7_learn 68 = .ok (.iload_n 1, 1) := by decide +kernel
theorem dX7_learn_69 : decode cX7_learn 69 = .ok (.iaload, 1) := by decide +kernel
theorem dX7_learn_70 : decode cX7_learn 70 = .ok (.invokestatic 165, 3) := by decide +kernel
theorem dX7_learn_73 : decode cX7_learn 73 = .ok (.ireturn, 1) := by decide +kernel
theorem dX7_setOnShift_0 : decode cX7_setOnShift 0 = .ok (.aload_n 0, 1) := by decide +kernel
theorem dX7_setOnShift_1 : decode cX7_setOnShift 1 = .ok (.aload_n 0, 1) := by decide +kernel
theorem dX7_setOnShift_2 : decode cX7_setOnShift 2 = .ok (.iload_n 1, 1) := by decide +kernel
theorem dX7_setOnShift_3 : decode cX7_setOnShift 3 = .ok (.invokevirtual 162, 3) := by decide +kernel
theorem dX7_setOnShift_6 : decode cX7_setOnShift 6 = .ok (.invokevirtual 112, 3) := by decide +kernel
theorem dX7_setOnShift_9 : decode cX7_setOnShift 9 = .ok (.ifCond .le 5, 3) := by decide +kernel
theorem dX7_setOnShift_12 : decode cX7_setOnShift 12 = .ok (.iconst 0, 1) := by decide +kernel
theorem dX7_setOnShift_13 : decode cX7_setOnShift 13 = .ok (.ireturn, 1) := by decide +kernel
theorem dX7_setOnShift_14 : decode cX7_setOnShift 14 = .ok (.aload_n 0, 1) := by decide +kernel
theorem dX7_setOnShift_15 : decode cX7_setOnShift 15 = .ok (.getfield 57, 3) := by decide +kernel
theorem dX7_setOnShift_18 : decode cX7_setOnShift 18 = .ok (.iload_n 1, 1) := by decide +kernel
theorem dX7_setOnShift_19 : decode cX7_setOnShift 19 = .ok (.baload, 1) := by decide +kernel
theorem dX7_setOnShift_20 : decode cX7_setOnShift 20 = .ok (.istore_n 3, 1) := by decide +kernel
theorem dX7_setOnShift_21 : decode cX7_setOnShift 21 = .ok (.aload_n 0, 1) := by decide +kernel
theorem dX7_setOnShift_22 : decode cX7_setOnShift 22 = .ok (.getfield 57, 3) := by decide +kernel
theorem dX7_setOnShift_25 : decode cX7_setOnShift 25 = .ok (.iload_n 1, 1) := by decide +kernel
theorem dX7_setOnShift_26 : decode cX7_setOnShift 26 = .ok (.iload_n 2, 1) := by decide +kernel
theorem dX7_setOnShift_27 : decode cX7_setOnShift 27 = .ok (.bastore, 1) := by decide +kernel
theorem dX7_setOnShift_28 : decode cX7_setOnShift 28 = .ok (.iconst 0, 1) := by decide +kernel
theorem dX7_setOnShift_29 : decode cX7_setOnShift 29 = .ok (.istore 4, 2) := by decide +kernel
theorem dX7_setOnShift_31 : decode cX7_setOnShift 31 = .ok (.iload 4, 2) := by decide +kernel
theorem dX7_setOnShift_33 : decode cX7_setOnShift 33 = .ok (.aload_n 0, 1) := by decide +kernel
theorem dX7_setOnShift_34 : decode cX7_setOnShift 34 = .ok (.getfield 79, 3) := by decide +kernel
theorem dX7_setOnShift_37 : decode cX7_setOnShift 37 = .ok (.if_icmp .ge 32, 3) := by decide +kernel
theorem dX7_setOnShift_40 : decode cX7_setOnShift 40 = .ok (.iload_n 2, 1) := by decide +kernel
theorem dX7_setOnShift_41 : decode cX7_setOnShift 41 = .ok (.ifCond .ne 28, 3) := by decide +kernel
theorem dX7_setOnShift_44 : decode cX7_setOnShift 44 = .ok (.aload_n 0, 1) := by decide +kernel
theorem dX7_setOnShift_45 : decode cX7_setOnShift 45 = .ok (.getfield 34, 3) := by decide +kernel
theorem dX7_setOnShift_48 : decode cX7_setOnShift 48 = .ok (.iload 4, 2) := by decide +kernel
theorem dX7_setOnShift_50 : decode cX7_setOnShift 50 = .ok (.iaload, 1) := by decide +kernel
theorem dX7_setOnShift_51 : decode cX7_setOnShift 51 = .ok (.iload_n 1, 1) := by decide +kernel
theorem dX7_setOnShift_52 : decode cX7_setOnShift 52 = .ok (.if_icmp .ne 11, 3) := by decide +kernel
theorem dX7_setOnShift_55 : decode cX7_setOnShift 55 = .ok (.aload_n 0, 1) := by decide +kernel
theorem dX7_setOnShift_56 : decode cX7_setOnShift 56 = .ok (.getfield 34, 3) := by decide +kernel
theorem dX7_setOnShift_59 : decode cX7_setOnShift 59 = .ok (.iload 4, 2) := by decide +kernel
theorem dX7_setOnShift_61 : decode cX7_setOnShift 61 = .ok (.iconst (-1), 1) := by decide +kernel
theorem dX7_setOnShift_62 : decode cX7_setOnShift 62 = .ok (.iastore, 1) := by decide +kernel
theorem dX7_setOnShift_63 : decode cX7_setOnShift 63 = .ok (.iinc 4 1, 3) := by decide +kernel
theorem dX7_setOnShift_66 : decode cX7_setOnShift 66 = .ok (.goto (-35), 3) := by decide +kernel
theorem dX7_setOnShift_69 : decode cX7_setOnShift 69 = .ok (.iload_n 3, 1) := by decide +kernel
theorem dX7_setOnShift_70 : decode cX7_setOnShift 70 = .ok (.ireturn, 1) := by decide +kernel
theorem dX7_heldBy_0 : decode cX7_heldBy 0 = .ok (.iconst 0, 1) := by decide +kernel
theorem dX7_heldBy_1 : decode cX7_heldBy 1 = .ok (.istore_n 2, 1) := by decide +kernel
theorem dX7_heldBy_2 : decode cX7_heldBy 2 = .ok (.iconst 0, 1) := by decide +kernel
theorem dX7_heldBy_3 : decode cX7_heldBy 3 = .ok (.istore_n 3, 1) := by decide +kernel
theorem dX7_heldBy_4 : decode cX7_heldBy 4 = .ok (.iload_n 3, 1) := by decide +kernel
theorem dX7_heldBy_5 : decode cX7_heldBy 5 = .ok (.aload_n 0, 1) := by decide +kernel
theorem dX7_heldBy_6 : decode cX7_heldBy 6 = .ok (.getfield 79, 3) := by decide +kernel
theorem dX7_heldBy_9 : decode cX7_heldBy 9 = .ok (.if_icmp .ge 27, 3) := by decide +kernel
theorem dX7_heldBy_12 : decode cX7_heldBy 12 = .ok (.iload_n 2, 1) := by decide +kernel
theorem dX7_heldBy_13 : decode cX7_heldBy 13 = .ok (.aload_n 0, 1) := by decide +kernel
theorem dX7_heldBy_14 : decode cX7_heldBy 14 = .ok (.getfield 34, 3) := by decide +kernel
theorem dX7_heldBy_17 : decode cX7_heldBy 17 = .ok (.iload_n 3, 1) := by decide +kernel
theorem dX7_heldBy_18 : decode cX7_heldBy 18 = .ok (.iaload, 1) := by decide +kernel
theorem dX7_heldBy_19 : decode cX7_heldBy 19 = .ok (.iload_n 1, 1) := by decide +kernel
theorem dX7_heldBy_20 : decode cX7_heldBy 20 = .ok (.if_icmp .ne 7, 3) := by decide +kernel
theorem dX7_heldBy_23 : decode cX7_heldBy 23 = .ok (.iconst 1, 1) := by decide +kernel
theorem dX7_heldBy_24 : decode cX7_heldBy 24 = .ok (.goto 4, 3) := by decide +kernel
theorem dX7_heldBy_27 : decode cX7_heldBy 27 = .ok (.iconst 0, 1) := by decide +kernel
theorem dX7_heldBy_28 : decode cX7_heldBy 28 = .ok (.iadd, 1) := by decide +kernel
theorem dX7_heldBy_29 : decode cX7_heldBy 29 = .ok (.istore_n 2, 1) := by decide +kernel
theorem dX7_heldBy_30 : decode cX7_heldBy 30 = .ok (.iinc 3 1, 3) := by decide +kernel
theorem dX7_heldBy_33 : decode cX7_heldBy 33 = .ok (.goto (-29), 3) := by decide +kernel
theorem dX7_heldBy_36 : decode cX7_heldBy 36 = .ok (.iload_n 2, 1) := by decide +kernel
theorem dX7_heldBy_37 : decode cX7_heldBy 37 = .ok (.ireturn, 1) := by decide +kernel
theorem dX7_held_0 : decode cX7_held 0 = .ok (.aload_n 0, 1) := by decide +kernel
theorem dX7_held_1 : decode cX7_held 1 = .ok (.aload_n 0, 1) := by decide +kernel
theorem dX7_held_2 : decode cX7_held 2 = .ok (.iload_n 1, 1) := by decide +kernel
theorem dX7_held_3 : decode cX7_held 3 = .ok (.invokevirtual 162, 3) := by decide +kernel
theorem dX7_held_6 : decode cX7_held 6 = .ok (.invokevirtual 112, 3) := by decide +kernel
theorem dX7_held_9 : decode cX7_held 9 = .ok (.ifCond .le 7, 3) := by decide +kernel
theorem dX7_held_12 : decode cX7_held 12 = .ok (.iconst 0, 1) := by decide +kernel
theorem dX7_held_13 : decode cX7_held 13 = .ok (.goto 8, 3) := by decide +kernel
theorem dX7_held_16 : decode cX7_held 16 = .ok (.aload_n 0, 1) := by decide +kernel
theorem dX7_held_17 : decode cX7_held 17 = .ok (.iload_n 1, 1) := by decide +kernel
theorem dX7_held_18 : decode cX7_held 18 = .ok (.invokevirtual 168, 3) := by decide +kernel
theorem dX7_held_21 : decode cX7_held 21 = .ok (.ireturn, 1) := by decide +kernel
theorem dX7_agentOf_0 : decode cX7_agentOf 0 = .ok (.aload_n 0, 1) := by decide +kernel
theorem dX7_agentOf_1 : decode cX7_agentOf 1 = .ok (.aload_n 0, 1) := by decide +kernel
theorem dX7_agentOf_2 : decode cX7_agentOf 2 = .ok (.iload_n 1, 1) := by decide +kernel
theorem dX7_agentOf_3 : decode cX7_agentOf 3 = .ok (.invokevirtual 149, 3) := by decide +kernel
theorem dX7_agentOf_6 : decode cX7_agentOf 6 = .ok (.ifCond .ne 7, 3) := by decide +kernel
theorem dX7_agentOf_9 : decode cX7_agentOf 9 = .ok (.iconst 1, 1) := by decide +kernel
theorem dX7_agentOf_10 : decode cX7_agentOf 10 = .ok (.goto 17, 3) := by decide +kernel
theorem dX7_agentOf_13 : decode cX7_agentOf 13 = .ok (.aload_n 0, 1) := by decide +kernel
theorem dX7_agentOf_14 : decode cX7_agentOf 14 = .ok (.getfield 34, 3) := by decide +kernel
theorem dX7_agentOf_17 : decode cX7_agentOf 17 = .ok (.iload_n 1, 1) := by decide +kernel
theorem dX7_agentOf_18 : decode cX7_agentOf 18 = .ok (.iaload, 1) := by decide +kernel
theorem dX7_agentOf_19 : decode cX7_agentOf 19 = .ok (.ifCond .ge 7, 3) := by decide +kernel
theorem dX7_agentOf_22 : decode cX7_agentOf 22 = .ok (.iconst 2, 1) := by decide +kernel
theorem dX7_agentOf_23 : decode cX7_agentOf 23 = .ok (.goto 4, 3) := by decide +kernel
theorem dX7_agentOf_26 : decode cX7_agentOf 26 = .ok (.iconst 0, 1) := by decide +kernel
theorem dX7_agentOf_27 : decode cX7_agentOf 27 = .ok (.putfield 69, 3) := by decide +kernel
theorem dX7_agentOf_30 : decode cX7_agentOf 30 = .ok (.aload_n 0, 1) := by decide +kernel
theorem dX7_agentOf_31 : decode cX7_agentOf 31 = .ok (.getfield 69, 3) := by decide +kernel
theorem dX7_agentOf_34 : decode cX7_agentOf 34 = .ok (.ifCond .le 7, 3) := by decide +kernel
theorem dX7_agentOf_37 : decode cX7_agentOf 37 = .ok (.iconst 0, 1) := by decide +kernel
theorem dX7_agentOf_38 : decode cX7_agentOf 38 = .ok (.goto 9, 3) := by decide +kernel
theorem dX7_agentOf_41 : decode cX7_agentOf 41 = .ok (.aload_n 0, 1) := by decide +kernel
theorem dX7_agentOf_42 : decode cX7_agentOf 42 = .ok (.getfield 34, 3) := by decide +kernel
theorem dX7_agentOf_45 : decode cX7_agentOf 45 = .ok (.iload_n 1, 1) := by decide +kernel
theorem dX7_agentOf_46 : decode cX7_agentOf 46 = .ok (.iaload, 1) := by decide +kernel
theorem dX7_agentOf_47 : decode cX7_agentOf 47 = .ok (.ireturn, 1) := by decide +kernel
theorem dX7_canAnswer_0 : decode cX7_canAnswer 0 = .ok (.aload_n 0, 1) := by decide +kernel
theorem dX7_canAnswer_1 : decode cX7_canAnswer 1 = .ok (.getfield 57, 3) := by decide +kernel
theorem dX7_canAnswer_4 : decode cX7_canAnswer 4 = .ok (.iload_n 1, 1) := by decide +kernel
theorem dX7_canAnswer_5 : decode cX7_canAnswer 5 = .ok (.baload, 1) := by decide +kernel
theorem dX7_canAnswer_6 : decode cX7_canAnswer 6 = .ok (.ifCond .eq 21, 3) := by decide +kernel
theorem dX7_canAnswer_9 : decode cX7_canAnswer 9 = .ok (.aload_n 0, 1) := by decide +kernel
theorem dX7_canAnswer_10 : decode cX7_canAnswer 10 = .ok (.iload_n 1, 1) := by decide +kernel
theorem dX7_canAnswer_11 : decode cX7_canAnswer 11 = .ok (.aload_n 0, 1) := by decide +kernel
theorem dX7_canAnswer_12 : decode cX7_canAnswer 12 = .ok (.getfield 28, 3) := by decide +kernel
theorem dX7_canAnswer_15 : decode cX7_canAnswer 15 = .ok (.iload_n 2, 1) := by decide +kernel
theorem dX7_canAnswer_16 : decode cX7_canAnswer 16 = .ok (.iaload, 1) := by decide +kernel
theorem dX7_canAnswer_17 : decode cX7_canAnswer 17 = .ok (.invokevirtual 155, 3) := by decide +kernel
theorem dX7_canAnswer_20 : decode cX7_canAnswer 20 = .ok (.ifCond .eq 7, 3) := by decide +kernel
theorem dX7_canAnswer_23 : decode cX7_canAnswer 23 = .ok (.iconst 1, 1) := by decide +kernel
theorem dX7_canAnswer_24 : decode cX7_canAnswer 24 = .ok (.goto 4, 3) := by decide +kernel
theorem dX7_canAnswer_27 : decode cX7_canAnswer 27 = .ok (.iconst 0, 1) := by decide +kernel
theorem dX7_canAnswer_28 : decode cX7_canAnswer 28 = .ok (.ireturn, 1) := by decide +kernel
theorem dX7_isFor_0 : decode cX7_isFor 0 = .ok (.aload_n 0, 1) := by decide +kernel
theorem dX7_isFor_1 : decode cX7_isFor 1 = .ok (.getfield 49, 3) := by decide +kernel
theorem dX7_isFor_4 : decode cX7_isFor 4 = .ok (.iload_n 2, 1) := by decide +kernel
theorem dX7_isFor_5 : decode cX7_isFor 5 = .ok (.caload, 1) := by decide +kernel
theorem dX7_isFor_6 : decode cX7_isFor 6 = .ok (.bipush 111, 2) := by decide +kernel
theorem dX7_isFor_8 : decode cX7_isFor 8 = .ok (.if_icmp .ne 25, 3) := by decide +kernel
theorem dX7_isFor_11 : decode cX7_isFor 11 = .ok (.aload_n 0, 1) := by decide +kernel
theorem dX7_isFor_12 : decode cX7_isFor 12 = .ok (.getfield 34, 3) := by decide +kernel
theorem dX7_isFor_15 : decode cX7_isFor 15 = .ok (.iload_n 2, 1) := by decide +kernel
theorem dX7_isFor_16 : decode cX7_isFor 16 = .ok (.iaload, 1) := by decide +kernel
theorem dX7_isFor_17 : decode cX7_isFor 17 = .ok (.ifCond .ge 16, 3) := by decide +kernel
theorem dX7_isFor_20 : decode cX7_isFor 20 = .ok (.aload_n 0, 1) := by decide +kernel
theorem dX7_isFor_21 : decode cX7_isFor 21 = .ok (.iload_n 1, 1) := by decide +kernel
theorem dX7_isFor_22 : decode cX7_isFor 22 = .ok (.iload_n 2, 1) := by decide +kernel
theorem dX7_isFor_23 : decode cX7_isFor 23 = .ok (.invokevirtual 171, 3) := by decide +kernel
theorem dX7_isFor_26 : decode cX7_isFor 26 = .ok (.ifCond .eq 7, 3) := by decide +kernel
theorem dX7_isFor_29 : decode cX7_isFor 29 = .ok (.iconst 1, 1) := by decide +kernel
theorem dX7_isFor_30 : decode cX7_isFor 30 = .ok (.goto 4, 3) := by decide +kernel
theorem dX7_isFor_33 : decode cX7_isFor 33 = .ok (.iconst 0, 1) := by decide +kernel
theorem dX7_isFor_34 : decode cX7_isFor 34 = .ok (.ireturn, 1) := by decide +kernel
theorem dX7_isSooner_0 : decode cX7_isSooner 0 = .ok (.aload_n 0, 1) := by decide +kernel
theorem dX7_isSooner_1 : decode cX7_isSooner 1 = .ok (.iload_n 1, 1) := by decide +kernel
theorem dX7_isSooner_2 : decode cX7_isSooner 2 = .ok (.invokevirtual 108, 3) := by decide +kernel
theorem dX7_isSooner_5 : decode cX7_isSooner 5 = .ok (.aload_n 0, 1) := by decide +kernel
theorem dX7_isSooner_6 : decode cX7_isSooner 6 = .ok (.iload_n 2, 1) := by decide +kernel
theorem dX7_isSooner_7 : decode cX7_isSooner 7 = .ok (.invokevirtual 108, 3) := by decide +kernel
theorem dX7_isSooner_10 : decode cX7_isSooner 10 = .ok (.if_icmp .eq 22, 3) := by decide +kernel
theorem dX7_isSooner_13 : decode cX7_isSooner 13 = .ok (.aload_n 0, 1) := by decide +kernel
theorem dX7_isSooner_14 : decode cX7_isSooner 14 = .ok (.iload_n 1, 1) := by decide +kernel
theorem dX7_isSooner_15 : decode cX7_isSooner 15 = .ok (.invokevirtual 108, 3) := by decide +kernel
theorem dX7_isSooner_18 : decode cX7_isSooner 18 = .ok (.aload_n 0, 1) := by decide +kernel
theorem dX7_isSooner_19 : decode cX7_isSooner 19 = .ok (.iload_n 2, 1) := by decide +kernel
theorem dX7_isSooner_20 : decode cX7_isSooner 20 = .ok (.invokevirtual 108, 3) := by decide +kernel
theorem dX7_isSooner_23 : decode cX7_isSooner 23 = .ok (.if_icmp .ge 7, 3) := by decide +kernel
theorem dX7_isSooner_26 : decode cX7_isSooner 26 = .ok (.iconst 1, 1) := by decide +kernel
theorem dX7_isSooner_27 : decode cX7_isSooner 27 = .ok (.goto 4, 3) := by decide +kernel
theorem dX7_isSooner_30 : decode cX7_isSooner 30 = .ok (.iconst 0, 1) := by decide +kernel
theorem dX7_isSooner_31 : decode cX7_isSooner 31 = .ok (.ireturn, 1) := by decide +kernel
theorem dX7_isSooner_32 : decode cX7_isSooner 32 = .ok (.aload_n 0, 1) := by decide +kernel
theorem dX7_isSooner_33 : decode cX7_isSooner 33 = .ok (.getfield 7, 3) := by decide +kernel
theorem dX7_isSooner_36 : decode cX7_isSooner 36 = .ok (.aload_n 0, 1) := by decide +kernel
theorem dX7_isSooner_37 : decode cX7_isSooner 37 = .ok (.getfield 22, 3) := by decide +kernel
theorem dX7_isSooner_40 : decode cX7_isSooner 40 = .ok (.iload_n 1, 1) := by decide +kernel
theorem dX7_isSooner_41 : decode cX7_isSooner 41 = .ok (.iaload, 1) := by decide +kernel
theorem dX7_isSooner_42 : decode cX7_isSooner 42 = .ok (.iaload, 1) := by decide +kernel
theorem dX7_isSooner_43 : decode cX7_isSooner 43 = .ok (.aload_n 0, 1) := by decide +kernel
theorem dX7_isSooner_44 : decode cX7_isSooner 44 = .ok (.getfield 7, 3) := by decide +kernel
theorem dX7_isSooner_47 : decode cX7_isSooner 47 = .ok (.aload_n 0, 1) := by decide +kernel
theorem dX7_isSooner_48 : decode cX7_isSooner 48 = .ok (.getfield 22, 3) := by decide +kernel
theorem dX7_isSooner_51 : decode cX7_isSooner 51 = .ok (.iload_n 2, 1) := by decide +kernel
theorem dX7_isSooner_52 : decode cX7_isSooner 52 = .ok (.iaload, 1) := by decide +kernel
theorem dX7_isSooner_53 : decode cX7_isSooner 53 = .ok (.iaload, 1) := by decide +kernel
theorem dX7_isSooner_54 : decode cX7_isSooner 54 = .ok (.if_icmp .le 7, 3) := by decide +kernel
theorem dX7_isSooner_57 : decode cX7_isSooner 57 = .ok (.iconst 1, 1) := by decide +kernel
theorem dX7_isSooner_58 : decode cX7_isSooner 58 = .ok (.goto 4, 3) := by decide +kernel
theorem dX7_isSooner_61 : decode cX7_isSooner 61 = .ok (.iconst 0, 1) := by decide +kernel
theorem dX7_isSooner_62 : decode cX7_isSooner 62 = .ok (.ireturn, 1) := by decide +kernel
theorem dX7_next_0 : decode cX7_next 0 = .ok (.iconst (-1), 1) := by decide +kernel
theorem dX7_next_1 : decode cX7_next 1 = .ok (.istore_n 2, 1) := by decide +kernel
theorem dX7_next_2 : decode cX7_next 2 = .ok (.iconst 0, 1) := by decide +kernel
theorem dX7_next_3 : decode cX7_next 3 = .ok (.istore_n 3, 1) := by decide +kernel
theorem dX7_next_4 : decode cX7_next 4 = .ok (.iload_n 3, 1) := by decide +kernel
theorem dX7_next_5 : decode cX7_next 5 = .ok (.aload_n 0, 1) := by decide +kernel
theorem dX7_next_6 : decode cX7_next 6 = .ok (.getfield 79, 3) := by decide +kernel
theorem dX7_next_9 : decode cX7_next 9 = .ok (.if_icmp .ge 33, 3) := by decide +kernel
theorem dX7_next_12 : decode cX7_next 12 = .ok (.aload_n 0, 1) := by decide +kernel
theorem dX7_next_13 : decode cX7_next 13 = .ok (.iload_n 1, 1) := by decide +kernel
theorem dX7_next_14 : decode cX7_next 14 = .ok (.iload_n 3, 1) := by decide +kernel
theorem dX7_next_15 : decode cX7_next 15 = .ok (.invokevirtual 174, 3) := by decide +kernel
theorem dX7_next_18 : decode cX7_next 18 = .ok (.ifCond .eq 18, 3) := by decide +kernel
theorem dX7_next_21 : decode cX7_next 21 = .ok (.iload_n 2, 1) := by decide +kernel
theorem dX7_next_22 : decode cX7_next 22 = .ok (.ifCond .lt 12, 3) := by decide +kernel
theorem dX7_next_25 : decode cX7_next 25 = .ok (.aload_n 0, 1) := by decide +kernel
theorem dX7_next_26 : decode cX7_next 26 = .ok (.iload_n 3, 1) := by decide +kernel
theorem dX7_next_27 : decode cX7_next 27 = .ok (.iload_n 2, 1) := by decide +kernel
theorem dX7_next_28 : decode cX7_next 28 = .ok (.invokevirtual 177, 3) := by decide +kernel
theorem dX7_next_31 : decode cX7_next 31 = .ok (.ifCond .eq 5, 3) := by decide +kernel
theorem dX7_next_34 : decode cX7_next 34 = .ok (.iload_n 3, 1) := by decide +kernel
theorem dX7_next_35 : decode cX7_next 35 = .ok (.istore_n 2, 1) := by decide +kernel
theorem dX7_next_36 : decode cX7_next 36 = .ok (.iinc 3 1, 3) := by decide +kernel
theorem dX7_next_39 : decode cX7_next 39 = .ok (.goto (-35), 3) := by decide +kernel
theorem dX7_next_42 : decode cX7_next 42 = .ok (.iload_n 2, 1) := by decide +kernel
theorem dX7_next_43 : decode cX7_next 43 = .ok (.ireturn, 1) := by decide +kernel
theorem dX7_nextFor_0 : decode cX7_nextFor 0 = .ok (.aload_n 0, 1) := by decide +kernel
theorem dX7_nextFor_1 : decode cX7_nextFor 1 = .ok (.aload_n 0, 1) := by decide +kernel
theorem dX7_nextFor_2 : decode cX7_nextFor 2 = .ok (.iload_n 1, 1) := by decide +kernel
theorem dX7_nextFor_3 : decode cX7_nextFor 3 = .ok (.invokevirtual 162, 3) := by decide +kernel
theorem dX7_nextFor_6 : decode cX7_nextFor 6 = .ok (.ifCond .ne 7, 3) := by decide +kernel
theorem dX7_nextFor_9 : decode cX7_nextFor 9 = .ok (.iconst 1, 1) := by decide +kernel
theorem dX7_nextFor_10 : decode cX7_nextFor 10 = .ok (.goto 16, 3) := by decide +kernel
theorem dX7_nextFor_13 : decode cX7_nextFor 13 = .ok (.aload_n 0, 1) := by decide +kernel
theorem dX7_nextFor_14 : decode cX7_nextFor 14 = .ok (.iload_n 1, 1) := by decide +kernel
theorem dX7_nextFor_15 : decode cX7_nextFor 15 = .ok (.invokevirtual 180, 3) := by decide +kernel
theorem dX7_nextFor_18 : decode cX7_nextFor 18 = .ok (.ifCond .ge 7, 3) := by decide +kernel
theorem dX7_nextFor_21 : decode cX7_nextFor 21 = .ok (.iconst 2, 1) := by decide +kernel
theorem dX7_nextFor_22 : decode cX7_nextFor 22 = .ok (.goto 4, 3) := by decide +kernel
theorem dX7_nextFor_25 : decode cX7_nextFor 25 = .ok (.iconst 0, 1) := by decide +kernel
theorem dX7_nextFor_26 : decode cX7_nextFor 26 = .ok (.putfield 69, 3) := by decide +kernel
theorem dX7_nextFor_29 : decode cX7_nextFor 29 = .ok (.aload_n 0, 1) := by decide +kernel
theorem dX7_nextFor_30 : decode cX7_nextFor 30 = .ok (.getfield 69, 3) := by decide +kernel
theorem dX7_nextFor_33 : decode cX7_nextFor 33 = .ok (.ifCond .le 7, 3) := by decide +kernel
theorem dX7_nextFor_36 : decode cX7_nextFor 36 = .ok (.iconst 0, 1) := by decide +kernel
theorem dX7_nextFor_37 : decode cX7_nextFor 37 = .ok (.goto 8, 3) := by decide +kernel
theorem dX7_nextFor_40 : decode cX7_nextFor 40 = .ok (.aload_n 0, 1) := by decide +kernel
theorem dX7_nextFor_41 : decode cX7_nextFor 41 = .ok (.iload_n 1, 1) := by decide +kernel
theorem dX7_nextFor_42 : decode cX7_nextFor 42 = .ok (.invokevirtual 180, 3) := by decide +kernel
theorem dX7_nextFor_45 : decode cX7_nextFor 45 = .ok (.ireturn, 1) := by decide +kernel
theorem dX7_nextByTickets_0 : decode cX7_nextByTickets 0 = .ok (.aload_n 0, 1) := by decide +kernel
theorem dX7_nextByTickets_1 : decode cX7_nextByTickets 1 = .ok (.iload_n 1, 1) := by decide +kernel
theorem dX7_nextByTickets_2 : decode cX7_nextByTickets 2 = .ok (.invokevirtual 183, 3) := by decide +kernel
theorem dX7_nextByTickets_5 : decode cX7_nextByTickets 5 = .ok (.ireturn, 1) := by decide +kernel
theorem dX7_waiting_0 : decode cX7_waiting 0 = .ok (.aload_n 0, 1) := by decide +kernel
theorem dX7_waiting_1 : decode cX7_waiting 1 = .ok (.aload_n 0, 1) := by decide +kernel
theorem dX7_waiting_2 : decode cX7_waiting 2 = .ok (.iload_n 1, 1) := by decide +kernel
theorem dX7_waiting_3 : decode cX7_waiting 3 = .ok (.invokevirtual 162, 3) := by decide +kernel
theorem dX7_waiting_6 : decode cX7_waiting 6 = .ok (.invokevirtual 112, 3) := by decide +kernel
theorem dX7_waiting_9 : decode cX7_waiting 9 = .ok (.ifCond .le 5, 3) := by decide +kernel
theorem dX7_waiting_12 : decode cX7_waiting 12 = .ok (.iconst 0, 1) := by decide +kernel
theorem dX7_waiting_13 : decode cX7_waiting 13 = .ok (.ireturn, 1) := by decide +kernel
theorem dX7_waiting_14 : decode cX7_waiting 14 = .ok (.iconst 0, 1) := by decide +kernel
theorem dX7_waiting_15 : decode cX7_waiting 15 = .ok (.istore_n 2, 1) := by decide +kernel
theorem dX7_waiting_16 : decode cX7_waiting 16 = .ok (.iconst 0, 1) := by decide +kernel
theorem dX7_waiting_17 : decode cX7_waiting 17 = .ok (.istore_n 3, 1) := by decide +kernel
theorem dX7_waiting_18 : decode cX7_waiting 18 = .ok (.iload_n 3, 1) := by decide +kernel
theorem dX7_waiting_19 : decode cX7_waiting 19 = .ok (.aload_n 0, 1) := by decide +kernel
theorem dX7_waiting_20 : decode cX7_waiting 20 = .ok (.getfield 79, 3) := by decide +kernel
theorem dX7_waiting_23 : decode cX7_waiting 23 = .ok (.if_icmp .ge 26, 3) := by decide +kernel
theorem dX7_waiting_26 : decode cX7_waiting 26 = .ok (.iload_n 2, 1) := by decide +kernel
theorem dX7_waiting_27 : decode cX7_waiting 27 = .ok (.aload_n 0, 1) := by decide +kernel
theorem dX7_waiting_28 : decode cX7_waiting 28 = .ok (.iload_n 1, 1) := by decide +kernel
theorem dX7_waiting_29 : decode cX7_waiting 29 = .ok (.iload_n 3, 1) := by decide +kernel
theorem dX7_waiting_30 : decode cX7_waiting 30 = .ok (.invokevirtual 174, 3) := by decide +kernel
theorem dX7_waiting_33 : decode cX7_waiting 33 = .ok (.ifCond .eq 7, 3) := by decide +kernel
theorem dX7_waiting_36 : decode cX7_waiting 36 = .ok (.iconst 1, 1) := by decide +kernel
theorem dX7_waiting_37 : decode cX7_waiting 37 = .ok (.goto 4, 3) := by decide +kernel
theorem dX7_waiting_40 : decode cX7_waiting 40 = .ok (.iconst 0, 1) := by decide +kernel
theorem dX7_waiting_41 : decode cX7_waiting 41 = .ok (.iadd, 1) := by decide +kernel
theorem dX7_waiting_42 : decode cX7_waiting 42 = .ok (.istore_n 2, 1) := by decide +kernel
theorem dX7_waiting_43 : decode cX7_waiting 43 = .ok (.iinc 3 1, 3) := by decide +kernel
theorem dX7_waiting_46 : decode cX7_waiting 46 = .ok (.goto (-28), 3) := by decide +kernel
theorem dX7_waiting_49 : decode cX7_waiting 49 = .ok (.iload_n 2, 1) := by decide +kernel
theorem dX7_waiting_50 : decode cX7_waiting 50 = .ok (.ireturn, 1) := by decide +kernel
theorem dX7_take_0 : decode cX7_take 0 = .ok (.aload_n 0, 1) := by decide +kernel
theorem dX7_take_1 : decode cX7_take 1 = .ok (.aload_n 0, 1) := by decide +kernel
theorem dX7_take_2 : decode cX7_take 2 = .ok (.iload_n 1, 1) := by decide +kernel
theorem dX7_take_3 : decode cX7_take 3 = .ok (.invokevirtual 162, 3) := by decide +kernel
theorem dX7_take_6 : decode cX7_take 6 = .ok (.ifCond .ne 7, 3) := by decide +kernel
theorem dX7_take_9 : decode cX7_take 9 = .ok (.iconst 1, 1) := by decide +kernel
theorem dX7_take_10 : decode cX7_take 10 = .ok (.goto 38, 3) := by decide +kernel
theorem dX7_take_13 : decode cX7_take 13 = .ok (.aload_n 0, 1) := by decide +kernel
theorem dX7_take_14 : decode cX7_take 14 = .ok (.getfield 57, 3) := by decide +kernel
theorem dX7_take_17 : decode cX7_take 17 = .ok (.iload_n 1, 1) := by decide +kernel
theorem dX7_take_18 : decode cX7_take 18 = .ok (.baload, 1) := by decide +kernel
theorem dX7_take_19 : decode cX7_take 19 = .ok (.ifCond .eq 12, 3) := by decide +kernel
theorem dX7_take_22 : decode cX7_take 22 = .ok (.aload_n 0, 1) := by decide +kernel
theorem dX7_take_23 : decode cX7_take 23 = .ok (.iload_n 1, 1) := by decide +kernel
theorem dX7_take_24 : decode cX7_take 24 = .ok (.invokevirtual 168, 3) := by decide +kernel
theorem dX7_take_27 : decode cX7_take 27 = .ok (.iconst 3, 1) := by decide +kernel
theorem dX7_take_28 : decode cX7_take 28 = .ok (.if_icmp .ne 7, 3) := by decide +kernel
theorem dX7_take_31 : decode cX7_take 31 = .ok (.iconst 2, 1) := by decide +kernel
theorem dX7_take_32 : decode cX7_take 32 = .ok (.goto 16, 3) := by decide +kernel
theorem dX7_take_35 : decode cX7_take 35 = .ok (.aload_n 0, 1) := by decide +kernel
theorem dX7_take_36 : decode cX7_take 36 = .ok (.iload_n 1, 1) := by decide +kernel
theorem dX7_take_37 : decode cX7_take 37 = .ok (.invokevirtual 180, 3) := by decide +kernel
theorem dX7_take_40 : decode cX7_take 40 = .ok (.ifCond .ge 7, 3) := by decide +kernel
theorem dX7_take_43 : decode cX7_take 43 = .ok (.iconst 3, 1) := by decide +kernel
theorem dX7_take_44 : decode cX7_take 44 = .ok (.goto 4, 3) := by decide +kernel
theorem dX7_take_47 : decode cX7_take 47 = .ok (.iconst 0, 1) := by decide +kernel
theorem dX7_take_48 : decode cX7_take 48 = .ok (.putfield 69, 3) := by decide +kernel
theorem dX7_take_51 : decode cX7_take 51 = .ok (.aload_n 0, 1) := by decide +kernel
theorem dX7_take_52 : decode cX7_take 52 = .ok (.getfield 69, 3) := by decide +kernel
theorem dX7_take_55 : decode cX7_take 55 = .ok (.ifCond .le 5, 3) := by decide +kernel
theorem dX7_take_58 : decode cX7_take 58 = .ok (.iconst 0, 1) := by decide +kernel
theorem dX7_take_59 : decode cX7_take 59 = .ok (.ireturn, 1) := by decide +kernel
theorem dX7_take_60 : decode cX7_take 60 = .ok (.aload_n 0, 1) := by decide +kernel
theorem dX7_take_61 : decode cX7_take 61 = .ok (.iload_n 1, 1) := by decide +kernel
theorem dX7_take_62 : decode cX7_take 62 = .ok (.invokevirtual 180, 3) := by decide +kernel
theorem dX7_take_65 : decode cX7_take 65 = .ok (.istore_n 2, 1) := by decide +kernel
theorem dX7_take_66 : decode cX7_take 66 = .ok (.aload_n 0, 1) := by decide +kernel
theorem dX7_take_67 : decode cX7_take 67 = .ok (.getfield 34, 3) := by decide +kernel
theorem dX7_take_70 : decode cX7_take 70 = .ok (.iload_n 2, 1) := by decide +kernel
theorem dX7_take_71 : decode cX7_take 71 = .ok (.iload_n 1, 1) := by decide +kernel
theorem dX7_take_72 : decode cX7_take 72 = .ok (.iastore, 1) := by decide +kernel
theorem dX7_take_73 : decode cX7_take 73 = .ok (.iload_n 2, 1) := by decide +kernel
theorem dX7_take_74 : decode cX7_take 74 = .ok (.ireturn, 1) := by decide +kernel
theorem dX7_handOver_0 : decode cX7_handOver 0 = .ok (.aload_n 0, 1) := by decide +kernel
theorem dX7_handOver_1 : decode cX7_handOver 1 = .ok (.aload_n 0, 1) := by decide +kernel
theorem dX7_handOver_2 : decode cX7_handOver 2 = .ok (.iload_n 1, 1) := by decide +kernel
theorem dX7_handOver_3 : decode cX7_handOver 3 = .ok (.invokevirtual 149, 3) := by decide +kernel
theorem dX7_handOver_6 : decode cX7_handOver 6 = .ok (.ifCond .eq 11, 3) := by decide +kernel
theorem dX7_handOver_9 : decode cX7_handOver 9 = .ok (.aload_n 0, 1) := by decide +kernel
theorem dX7_handOver_10 : decode cX7_handOver 10 = .ok (.iload_n 2, 1) := by decide +kernel
theorem dX7_handOver_11 : decode cX7_handOver 11 = .ok (.invokevirtual 162, 3) := by decide +kernel
theorem dX7_handOver_14 : decode cX7_handOver 14 = .ok (.ifCond .ne 7, 3) := by decide +kernel
theorem dX7_handOver_17 : decode cX7_handOver 17 = .ok (.iconst 1, 1) := by decide +kernel
theorem dX7_handOver_18 : decode cX7_handOver 18 = .ok (.goto 49, 3) := by decide +kernel
theorem dX7_handOver_21 : decode cX7_handOver 21 = .ok (.aload_n 0, 1) := by decide +kernel
theorem dX7_handOver_22 : decode cX7_handOver 22 = .ok (.getfield 34, 3) := by decide +kernel
theorem dX7_handOver_25 : decode cX7_handOver 25 = .ok (.iload_n 1, 1) := by decide +kernel
theorem dX7_handOver_26 : decode cX7_handOver 26 = .ok (.iaload, 1) := by decide +kernel
theorem dX7_handOver_27 : decode cX7_handOver 27 = .ok (.ifCond .lt 22, 3) := by decide +kernel
theorem dX7_handOver_30 : decode cX7_handOver 30 = .ok (.aload_n 0, 1) := by decide +kernel
theorem dX7_handOver_31 : decode cX7_handOver 31 = .ok (.getfield 34, 3) := by decide +kernel
theorem dX7_handOver_34 : decode cX7_handOver 34 = .ok (.iload_n 1, 1) := by decide +kernel
theorem dX7_handOver_35 : decode cX7_handOver 35 = .ok (.iaload, 1) := by decide +kernel
theorem dX7_handOver_36 : decode cX7_handOver 36 = .ok (.iload_n 2, 1) := by decide +kernel
theorem dX7_handOver_37 : decode cX7_handOver 37 = .ok (.if_icmp .eq 12, 3) := by decide +kernel
theorem dX7_handOver_40 : decode cX7_handOver 40 = .ok (.aload_n 0, 1) := by decide +kernel
theorem dX7_handOver_41 : decode cX7_handOver 41 = .ok (.iload_n 2, 1) := by decide +kernel
theorem dX7_handOver_42 : decode cX7_handOver 42 = .ok (.invokevirtual 168, 3) := by decide +kernel
theorem dX7_handOver_45 : decode cX7_handOver 45 = .ok (.iconst 3, 1) := by decide +kernel
theorem dX7_handOver_46 : decode cX7_handOver 46 = .ok (.if_icmp .ne 7, 3) := by decide +kernel
theorem dX7_handOver_49 : decode cX7_handOver 49 = .ok (.iconst 2, 1) := by decide +kernel
theorem dX7_handOver_50 : decode cX7_handOver 50 = .ok (.goto 17, 3) := by decide +kernel
theorem dX7_handOver_53 : decode cX7_handOver 53 = .ok (.aload_n 0, 1) := by decide +kernel
theorem dX7_handOver_54 : decode cX7_handOver 54 = .ok (.iload_n 2, 1) := by decide +kernel
theorem dX7_handOver_55 : decode cX7_handOver 55 = .ok (.iload_n 1, 1) := by decide +kernel
theorem dX7_handOver_56 : decode cX7_handOver 56 = .ok (.invokevirtual 171, 3) := by decide +kernel
theorem dX7_handOver_59 : decode cX7_handOver 59 = .ok (.ifCond .ne 7, 3) := by decide +kernel
theorem dX7_handOver_62 : decode cX7_handOver 62 = .ok (.iconst 3, 1) := by decide +kernel
theorem dX7_handOver_63 : decode cX7_handOver 63 = .ok (.goto 4, 3) := by decide +kernel
theorem dX7_handOver_66 : decode cX7_handOver 66 = .ok (.iconst 0, 1) := by decide +kernel
theorem dX7_handOver_67 : decode cX7_handOver 67 = .ok (.putfield 69, 3) := by decide +kernel
theorem dX7_handOver_70 : decode cX7_handOver 70 = .ok (.aload_n 0, 1) := by decide +kernel
theorem dX7_handOver_71 : decode cX7_handOver 71 = .ok (.getfield 69, 3) := by decide +kernel
theorem dX7_handOver_74 : decode cX7_handOver 74 = .ok (.ifCond .le 5, 3) := by decide +kernel
theorem dX7_handOver_77 : decode cX7_handOver 77 = .ok (.iconst 0, 1) := by decide +kernel
theorem dX7_handOver_78 : decode cX7_handOver 78 = .ok (.ireturn, 1) := by decide +kernel
theorem dX7_handOver_79 : decode cX7_handOver 79 = .ok (.aload_n 0, 1) := by decide +kernel
theorem dX7_handOver_80 : decode cX7_handOver 80 = .ok (.getfield 34, 3) := by decide +kernel
theorem dX7_handOver_83 : decode cX7_handOver 83 = .ok (.iload_n 1, 1) := by decide +kernel
theorem dX7_handOver_84 : decode cX7_handOver 84 = .ok (.iload_n 2, 1) := by decide +kernel
theorem dX7_handOver_85 : decode cX7_handOver 85 = .ok (.iastore, 1) := by decide +kernel
theorem dX7_handOver_86 : decode cX7_handOver 86 = .ok (.aload_n 0, 1) := by decide +kernel
theorem dX7_handOver_87 : decode cX7_handOver 87 = .ok (.getfield 37, 3) := by decide +kernel
theorem dX7_handOver_90 : decode cX7_handOver 90 = .ok (.iload_n 1, 1) := by decide +kernel
theorem dX7_handOver_91 : decode cX7_handOver 91 = .ok (.dup2, 1) := by decide +kernel
theorem dX7_handOver_92 : decode cX7_handOver 92 = .ok (.iaload, 1) := by decide +kernel
theorem dX7_handOver_93 : decode cX7_handOver 93 = .ok (.iconst 1, 1) := by decide +kernel
theorem dX7_handOver_94 : decode cX7_handOver 94 = .ok (.iadd, 1) := by decide +kernel
theorem dX7_handOver_95 : decode cX7_handOver 95 = .ok (.iastore, 1) := by decide +kernel
theorem dX7_handOver_96 : decode cX7_handOver 96 = .ok (.aload_n 0, 1) := by decide +kernel
theorem dX7_handOver_97 : decode cX7_handOver 97 = .ok (.getfield 37, 3) := by decide +kernel
theorem dX7_handOver_100 : decode cX7_handOver 100 = .ok (.iload_n 1, 1) := by decide +kernel
theorem dX7_handOver_101 : decode cX7_handOver 101 = .ok (.iaload, 1) := by decide +kernel
theorem dX7_handOver_102 : decode cX7_handOver 102 = .ok (.ireturn, 1) := by decide +kernel
theorem dX7_giveBack_0 : decode cX7_giveBack 0 = .ok (.aload_n 0, 1) := by decide +kernel
theorem dX7_giveBack_1 : decode cX7_giveBack 1 = .ok (.aload_n 0, 1) := by decide +kernel
theorem dX7_giveBack_2 : decode cX7_giveBack 2 = .ok (.iload_n 1, 1) := by decide +kernel
theorem dX7_giveBack_3 : decode cX7_giveBack 3 = .ok (.invokevirtual 149, 3) := by decide +kernel
theorem dX7_giveBack_6 : decode cX7_giveBack 6 = .ok (.ifCond .ne 7, 3) := by decide +kernel
theorem dX7_giveBack_9 : decode cX7_giveBack 9 = .ok (.iconst 1, 1) := by decide +kernel
theorem dX7_giveBack_10 : decode cX7_giveBack 10 = .ok (.goto 17, 3) := by decide +kernel
theorem dX7_giveBack_13 : decode cX7_giveBack 13 = .ok (.aload_n 0, 1) := by decide +kernel
theorem dX7_giveBack_14 : decode cX7_giveBack 14 = .ok (.getfield 34, 3) := by decide +kernel
theorem dX7_giveBack_17 : decode cX7_giveBack 17 = .ok (.iload_n 1, 1) := by decide +kernel
theorem dX7_giveBack_18 : decode cX7_giveBack 18 = .ok (.iaload, 1) := by decide +kernel
theorem dX7_giveBack_19 : decode cX7_giveBack 19 = .ok (.ifCond .ge 7, 3) := by decide +kernel
theorem dX7_giveBack_22 : decode cX7_giveBack 22 = .ok (.iconst 2, 1) := by decide +kernel
theorem dX7_giveBack_23 : decode cX7_giveBack 23 = .ok (.goto 4, 3) := by decide +kernel
theorem dX7_giveBack_26 : decode cX7_giveBack 26 = .ok (.iconst 0, 1) := by decide +kernel
theorem dX7_giveBack_27 : decode cX7_giveBack 27 = .ok (.putfield 69, 3) := by decide +kernel
theorem dX7_giveBack_30 : decode cX7_giveBack 30 = .ok (.aload_n 0, 1) := by decide +kernel
theorem dX7_giveBack_31 : decode cX7_giveBack 31 = .ok (.getfield 69, 3) := by decide +kernel
theorem dX7_giveBack_34 : decode cX7_giveBack 34 = .ok (.ifCond .le 5, 3) := by decide +kernel
theorem dX7_giveBack_37 : decode cX7_giveBack 37 = .ok (.iconst 0, 1) := by decide +kernel
theorem dX7_giveBack_38 : decode cX7_giveBack 38 = .ok (.ireturn, 1) := by decide +kernel
theorem dX7_giveBack_39 : decode cX7_giveBack 39 = .ok (.aload_n 0, 1) := by decide +kernel
theorem dX7_giveBack_40 : decode cX7_giveBack 40 = .ok (.getfield 34, 3) := by decide +kernel
theorem dX7_giveBack_43 : decode cX7_giveBack 43 = .ok (.iload_n 1, 1) := by decide +kernel
theorem dX7_giveBack_44 : decode cX7_giveBack 44 = .ok (.iaload, 1) := by decide +kernel
theorem dX7_giveBack_45 : decode cX7_giveBack 45 = .ok (.istore_n 2, 1) := by decide +kernel
theorem dX7_giveBack_46 : decode cX7_giveBack 46 = .ok (.aload_n 0, 1) := by decide +kernel
theorem dX7_giveBack_47 : decode cX7_giveBack 47 = .ok (.getfield 34, 3) := by decide +kernel
theorem dX7_giveBack_50 : decode cX7_giveBack 50 = .ok (.iload_n 1, 1) := by decide +kernel
theorem dX7_giveBack_51 : decode cX7_giveBack 51 = .ok (.iconst (-1), 1) := by decide +kernel
theorem dX7_giveBack_52 : decode cX7_giveBack 52 = .ok (.iastore, 1) := by decide +kernel
theorem dX7_giveBack_53 : decode cX7_giveBack 53 = .ok (.aload_n 0, 1) := by decide +kernel
theorem dX7_giveBack_54 : decode cX7_giveBack 54 = .ok (.iload_n 2, 1) := by decide +kernel
theorem dX7_giveBack_55 : decode cX7_giveBack 55 = .ok (.invokevirtual 168, 3) := by decide +kernel
theorem dX7_giveBack_58 : decode cX7_giveBack 58 = .ok (.ireturn, 1) := by decide +kernel
theorem dX7_turns_0 : decode cX7_turns 0 = .ok (.aload_n 0, 1) := by decide +kernel
theorem dX7_turns_1 : decode cX7_turns 1 = .ok (.aload_n 0, 1) := by decide +kernel
theorem dX7_turns_2 : decode cX7_turns 2 = .ok (.iload_n 1, 1) := by decide +kernel
theorem dX7_turns_3 : decode cX7_turns 3 = .ok (.invokevirtual 149, 3) := by decide +kernel
theorem dX7_turns_6 : decode cX7_turns 6 = .ok (.ifCond .ne 7, 3) := by decide +kernel
theorem dX7_turns_9 : decode cX7_turns 9 = .ok (.iconst 1, 1) := by decide +kernel
theorem dX7_turns_10 : decode cX7_turns 10 = .ok (.goto 18, 3) := by decide +kernel
theorem dX7_turns_13 : decode cX7_turns 13 = .ok (.aload_n 0, 1) := by decide +kernel
theorem dX7_turns_14 : decode cX7_turns 14 = .ok (.getfield 49, 3) := by decide +kernel
theorem dX7_turns_17 : decode cX7_turns 17 = .ok (.iload_n 1, 1) := by decide +kernel
theorem dX7_turns_18 : decode cX7_turns 18 = .ok (.caload, 1) := by decide +kernel
theorem dX7_turns_19 : decode cX7_turns 19 = .ok (.iload_n 2, 1) := by decide +kernel
theorem dX7_turns_20 : decode cX7_turns 20 = .ok (.if_icmp .eq 7, 3) := by decide +kernel
theorem dX7_turns_23 : decode cX7_turns 23 = .ok (.iconst 2, 1) := by decide +kernel
theorem dX7_turns_24 : decode cX7_turns 24 = .ok (.goto 4, 3) := by decide +kernel
theorem dX7_turns_27 : decode cX7_turns 27 = .ok (.iconst 0, 1) := by decide +kernel
theorem dX7_turns_28 : decode cX7_turns 28 = .ok (.putfield 69, 3) := by decide +kernel
theorem dX7_turns_31 : decode cX7_turns 31 = .ok (.aload_n 0, 1) := by decide +kernel
theorem dX7_turns_32 : decode cX7_turns 32 = .ok (.getfield 69, 3) := by decide +kernel
theorem dX7_turns_35 : decode cX7_turns 35 = .ok (.ifCond .le 5, 3) := by decide +kernel
theorem dX7_turns_38 : decode cX7_turns 38 = .ok (.iconst 0, 1) := by decide +kernel
theorem dX7_turns_39 : decode cX7_turns 39 = .ok (.ireturn, 1) := by decide +kernel
theorem dX7_turns_40 : decode cX7_turns 40 = .ok (.aload_n 0, 1) := by decide +kernel
theorem dX7_turns_41 : decode cX7_turns 41 = .ok (.getfield 49, 3) := by decide +kernel
theorem dX7_turns_44 : decode cX7_turns 44 = .ok (.iload_n 1, 1) := by decide +kernel
theorem dX7_turns_45 : decode cX7_turns 45 = .ok (.iload_n 3, 1) := by decide +kernel
theorem dX7_turns_46 : decode cX7_turns 46 = .ok (.castore, 1) := by decide +kernel
theorem dX7_turns_47 : decode cX7_turns 47 = .ok (.aload_n 0, 1) := by decide +kernel
theorem dX7_turns_48 : decode cX7_turns 48 = .ok (.getfield 31, 3) := by decide +kernel
theorem dX7_turns_51 : decode cX7_turns 51 = .ok (.iload_n 1, 1) := by decide +kernel
theorem dX7_turns_52 : decode cX7_turns 52 = .ok (.iaload, 1) := by decide +kernel
theorem dX7_turns_53 : decode cX7_turns 53 = .ok (.ireturn, 1) := by decide +kernel
theorem dX7_hold_0 : decode cX7_hold 0 = .ok (.aload_n 0, 1) := by decide +kernel
theorem dX7_hold_1 : decode cX7_hold 1 = .ok (.iload_n 1, 1) := by decide +kernel
theorem dX7_hold_2 : decode cX7_hold 2 = .ok (.bipush 111, 2) := by decide +kernel
theorem dX7_hold_4 : decode cX7_hold 4 = .ok (.bipush 104, 2) := by decide +kernel
theorem dX7_hold_6 : decode cX7_hold 6 = .ok (.invokevirtual 186, 3) := by decide +kernel
theorem dX7_hold_9 : decode cX7_hold 9 = .ok (.ireturn, 1) := by decide +kernel
theorem dX7_resume_0 : decode cX7_resume 0 = .ok (.aload_n 0, 1) := by decide +kernel
theorem dX7_resume_1 : decode cX7_resume 1 = .ok (.iload_n 1, 1) := by decide +kernel
theorem dX7_resume_2 : decode cX7_resume 2 = .ok (.bipush 104, 2) := by decide +kernel
theorem dX7_resume_4 : decode cX7_resume 4 = .ok (.bipush 111, 2) := by decide +kernel
theorem dX7_resume_6 : decode cX7_resume 6 = .ok (.invokevirtual 186, 3) := by decide +kernel
theorem dX7_resume_9 : decode cX7_resume 9 = .ok (.ireturn, 1) := by decide +kernel
theorem dX7_answer_0 : decode cX7_answer 0 = .ok (.aload_n 0, 1) := by decide +kernel
theorem dX7_answer_1 : decode cX7_answer 1 = .ok (.aload_n 0, 1) := by decide +kernel
theorem dX7_answer_2 : decode cX7_answer 2 = .ok (.iload_n 1, 1) := by decide +kernel
theorem dX7_answer_3 : decode cX7_answer 3 = .ok (.invokevirtual 149, 3) := by decide +kernel
theorem dX7_answer_6 : decode cX7_answer 6 = .ok (.ifCond .ne 7, 3) := by decide +kernel
theorem dX7_answer_9 : decode cX7_answer 9 = .ok (.iconst 1, 1) := by decide +kernel
theorem dX7_answer_10 : decode cX7_answer 10 = .ok (.goto 46, 3) := by decide +kernel
theorem dX7_answer_13 : decode cX7_answer 13 = .ok (.aload_n 0, 1) := by decide +kernel
theorem dX7_answer_14 : decode cX7_answer 14 = .ok (.getfield 49, 3) := by decide +kernel
theorem dX7_answer_17 : decode cX7_answer 17 = .ok (.iload_n 1, 1) := by decide +kernel
theorem dX7_answer_18 : decode cX7_answer 18 = .ok (.caload, 1) := by decide +kernel
theorem dX7_answer_19 : decode cX7_answer 19 = .ok (.bipush 111, 2) := by decide +kernel
theorem dX7_answer_21 : decode cX7_answer 21 = .ok (.if_icmp .ne 12, 3) := by decide +kernel
theorem dX7_answer_24 : decode cX7_answer 24 = .ok (.aload_n 0, 1) := by decide +kernel
theorem dX7_answer_25 : decode cX7_answer 25 = .ok (.getfield 34, 3) := by decide +kernel
theorem dX7_answer_28 : decode cX7_answer 28 = .ok (.iload_n 1, 1) := by decide +kernel
theorem dX7_answer_29 : decode cX7_answer 29 = .ok (.iaload, 1) := by decide +kernel
theorem dX7_answer_30 : decode cX7_answer 30 = .ok (.ifCond .ge 7, 3) := by decide +kernel
theorem dX7_answer_33 : decode cX7_answer 33 = .ok (.iconst 2, 1) := by decide +kernel
theorem dX7_answer_34 : decode cX7_answer 34 = .ok (.goto 22, 3) := by decide +kernel
theorem dX7_answer_37 : decode cX7_answer 37 = .ok (.iload_n 2, 1) := by decide +kernel
theorem dX7_answer_38 : decode cX7_answer 38 = .ok (.iconst (-1), 1) := by decide +kernel
theorem dX7_answer_39 : decode cX7_answer 39 = .ok (.aload_n 0, 1) := by decide +kernel
theorem dX7_answer_40 : decode cX7_answer 40 = .ok (.getfield 85, 3) := by decide +kernel
theorem dX7_answer_43 : decode cX7_answer 43 = .ok (.iconst 1, 1) := by decide +kernel
theorem dX7_answer_44 : decode cX7_answer 44 = .ok (.isub, 1) := by decide +kernel
theorem dX7_answer_45 : decode cX7_answer 45 = .ok (.invokestatic 104, 3) := by decide +kernel
theorem dX7_answer_48 : decode cX7_answer 48 = .ok (.ifCond .ne 7, 3) := by decide +kernel
theorem dX7_answer_51 : decode cX7_answer 51 = .ok (.iconst 3, 1) := by decide +kernel
theorem dX7_answer_52 : decode cX7_answer 52 = .ok (.goto 4, 3) := by decide +kernel
theorem dX7_answer_55 : decode cX7_answer 55 = .ok (.iconst 0, 1) := by decide +kernel
theorem dX7_answer_56 : decode cX7_answer 56 = .ok (.putfield 69, 3) := by decide +kernel
theorem dX7_answer_59 : decode cX7_answer 59 = .ok (.aload_n 0, 1) := by decide +kernel
theorem dX7_answer_60 : decode cX7_answer 60 = .ok (.getfield 69, 3) := by decide +kernel
theorem dX7_answer_63 : decode cX7_answer 63 = .ok (.ifCond .le 5, 3) := by decide +kernel
theorem dX7_answer_66 : decode cX7_answer 66 = .ok (.iconst 0, 1) := by decide +kernel
theorem dX7_answer_67 : decode cX7_answer 67 = .ok (.ireturn, 1) := by decide +kernel
theorem dX7_answer_68 : decode cX7_answer 68 = .ok (.aload_n 0, 1) := by decide +kernel
theorem dX7_answer_69 : decode cX7_answer 69 = .ok (.getfield 49, 3) := by decide +kernel
theorem dX7_answer_72 : decode cX7_answer 72 = .ok (.iload_n 1, 1) := by decide +kernel
theorem dX7_answer_73 : decode cX7_answer 73 = .ok (.bipush 97, 2) := by decide +kernel
theorem dX7_answer_75 : decode cX7_answer 75 = .ok (.castore, 1) := by decide +kernel
theorem dX7_answer_76 : decode cX7_answer 76 = .ok (.aload_n 0, 1) := by decide +kernel
theorem dX7_answer_77 : decode cX7_answer 77 = .ok (.getfield 34, 3) := by decide +kernel
theorem dX7_answer_80 : decode cX7_answer 80 = .ok (.iload_n 1, 1) := by decide +kernel
theorem dX7_answer_81 : decode cX7_answer 81 = .ok (.iconst (-1), 1) := by decide +kernel
theorem dX7_answer_82 : decode cX7_answer 82 = .ok (.iastore, 1) := by decide +kernel
theorem dX7_answer_83 : decode cX7_answer 83 = .ok (.aload_n 0, 1) := by decide +kernel
theorem dX7_answer_84 : decode cX7_answer 84 = .ok (.getfield 46, 3) := by decide +kernel
theorem dX7_answer_87 : decode cX7_answer 87 = .ok (.iload_n 1, 1) := by decide +kernel
theorem dX7_answer_88 : decode cX7_answer 88 = .ok (.iload_n 2, 1) := by decide +kernel
theorem dX7_answer_89 : decode cX7_answer 89 = .ok (.iastore, 1) := by decide +kernel
theorem dX7_answer_90 : decode cX7_answer 90 = .ok (.aload_n 0, 1) := by decide +kernel
theorem dX7_answer_91 : decode cX7_answer 91 = .ok (.dup, 1) := by decide +kernel
theorem dX7_answer_92 : decode cX7_answer 92 = .ok (.getfield 91, 3) := by decide +kernel
theorem dX7_answer_95 : decode cX7_answer 95 = .ok (.iconst 1, 1) := by decide +kernel
theorem dX7_answer_96 : decode cX7_answer 96 = .ok (.iadd, 1) := by decide +kernel
theorem dX7_answer_97 : decode cX7_answer 97 = .ok (.putfield 91, 3) := by decide +kernel
theorem dX7_answer_100 : decode cX7_answer 100 = .ok (.aload_n 0, 1) := by decide +kernel
theorem dX7_answer_101 : decode cX7_answer 101 = .ok (.dup, 1) := by decide +kernel
theorem dX7_answer_102 : decode cX7_answer 102 = .ok (.getfield 94, 3) := by decide +kernel
theorem dX7_answer_105 : decode cX7_answer 105 = .ok (.aload_n 0, 1) := by decide +kernel
theorem dX7_answer_106 : decode cX7_answer 106 = .ok (.getfield 53, 3) := by decide +kernel
theorem dX7_answer_109 : decode cX7_answer 109 = .ok (.iload_n 1, 1) := by decide +kernel
theorem dX7_answer_110 : decode cX7_answer 110 = .ok (.baload, 1) := by decide +kernel
theorem dX7_answer_111 : decode cX7_answer 111 = .ok (.ifCond .eq 7, 3) := by decide +kernel
theorem dX7_answer_114 : decode cX7_answer 114 = .ok (.iconst 0, 1) := by decide +kernel
theorem dX7_answer_115 : decode cX7_answer 115 = .ok (.goto 4, 3) := by decide +kernel
theorem dX7_answer_118 : decode cX7_answer 118 = .ok (.iconst 1, 1) := by decide +kernel
theorem dX7_answer_119 : decode cX7_answer 119 = .ok (.iadd, 1) := by decide +kernel
theorem dX7_answer_120 : decode cX7_answer 120 = .ok (.putfield 94, 3) := by decide +kernel
theorem dX7_answer_123 : decode cX7_answer 123 = .ok (.aload_n 0, 1) := by decide +kernel
theorem dX7_answer_124 : decode cX7_answer 124 = .ok (.dup, 1) := by decide +kernel
theorem dX7_answer_125 : decode cX7_answer 125 = .ok (.getfield 97, 3) := by decide +kernel
theorem dX7_answer_128 : decode cX7_answer 128 = .ok (.aload_n 0, 1) := by decide +kernel
theorem dX7_answer_129 : decode cX7_answer 129 = .ok (.getfield 31, 3) := by decide +kernel
theorem dX7_answer_132 : decode cX7_answer 132 = .ok (.iload_n 1, 1) := by decide +kernel
theorem dX7_answer_133 : decode cX7_answer 133 = .ok (.iaload, 1) := by decide +kernel
theorem dX7_answer_134 : decode cX7_answer 134 = .ok (.iadd, 1) := by decide +kernel
theorem dX7_answer_135 : decode cX7_answer 135 = .ok (.putfield 97, 3) := by decide +kernel
theorem dX7_answer_138 : decode cX7_answer 138 = .ok (.aload_n 0, 1) := by decide +kernel
theorem dX7_answer_139 : decode cX7_answer 139 = .ok (.getfield 31, 3) := by decide +kernel
theorem dX7_answer_142 : decode cX7_answer 142 = .ok (.iload_n 1, 1) := by decide +kernel
theorem dX7_answer_143 : decode cX7_answer 143 = .ok (.iaload, 1) := by decide +kernel
theorem dX7_answer_144 : decode cX7_answer 144 = .ok (.ireturn, 1) := by decide +kernel
theorem dX7_close_0 : decode cX7_close 0 = .ok (.aload_n 0, 1) := by decide +kernel
theorem dX7_close_1 : decode cX7_close 1 = .ok (.aload_n 0, 1) := by decide +kernel
theorem dX7_close_2 : decode cX7_close 2 = .ok (.iload_n 1, 1) := by decide +kernel
theorem dX7_close_3 : decode cX7_close 3 = .ok (.invokevirtual 149, 3) := by decide +kernel
theorem dX7_close_6 : decode cX7_close 6 = .ok (.ifCond .ne 7, 3) := by decide +kernel
theorem dX7_close_9 : decode cX7_close 9 = .ok (.iconst 1, 1) := by decide +kernel
theorem dX7_close_10 : decode cX7_close 10 = .ok (.goto 19, 3) := by decide +kernel
theorem dX7_close_13 : decode cX7_close 13 = .ok (.aload_n 0, 1) := by decide +kernel
theorem dX7_close_14 : decode cX7_close 14 = .ok (.getfield 49, 3) := by decide +kernel
theorem dX7_close_17 : decode cX7_close 17 = .ok (.iload_n 1, 1) := by decide +kernel
theorem dX7_close_18 : decode cX7_close 18 = .ok (.caload, 1) := by decide +kernel
theorem dX7_close_19 : decode cX7_close 19 = .ok (.bipush 97, 2) := by decide +kernel
theorem dX7_close_21 : decode cX7_close 21 = .ok (.if_icmp .eq 7, 3) := by decide +kernel
theorem dX7_close_24 : decode cX7_close 24 = .ok (.iconst 2, 1) := by decide +kernel
theorem dX7_close_25 : decode cX7_close 25 = .ok (.goto 4, 3) := by decide +kernel
theorem dX7_close_28 : decode cX7_close 28 = .ok (.iconst 0, 1) := by decide +kernel
theorem dX7_close_29 : decode cX7_close 29 = .ok (.putfield 69, 3) := by decide +kernel
theorem dX7_close_32 : decode cX7_close 32 = .ok (.aload_n 0, 1) := by decide +kernel
theorem dX7_close_33 : decode cX7_close 33 = .ok (.getfield 69, 3) := by decide +kernel
theorem dX7_close_36 : decode cX7_close 36 = .ok (.ifCond .le 5, 3) := by decide +kernel
theorem dX7_close_39 : decode cX7_close 39 = .ok (.iconst 0, 1) := by decide +kernel
theorem dX7_close_40 : decode cX7_close 40 = .ok (.ireturn, 1) := by decide +kernel
theorem dX7_close_41 : decode cX7_close 41 = .ok (.aload_n 0, 1) := by decide +kernel
theorem dX7_close_42 : decode cX7_close 42 = .ok (.iload_n 1, 1) := by decide +kernel
theorem dX7_close_43 : decode cX7_close 43 = .ok (.iconst 1, 1) := by decide +kernel
theorem dX7_close_44 : decode cX7_close 44 = .ok (.invokevirtual 133, 3) := by decide +kernel
theorem dX7_close_47 : decode cX7_close 47 = .ok (.aload_n 0, 1) := by decide +kernel
theorem dX7_close_48 : decode cX7_close 48 = .ok (.getfield 49, 3) := by decide +kernel
theorem dX7_close_51 : decode cX7_close 51 = .ok (.iload_n 1, 1) := by decide +kernel
theorem dX7_close_52 : decode cX7_close 52 = .ok (.bipush 99, 2) := by decide +kernel
theorem dX7_close_54 : decode cX7_close 54 = .ok (.castore, 1) := by decide +kernel
theorem dX7_close_55 : decode cX7_close 55 = .ok (.aload_n 0, 1) := by decide +kernel
theorem dX7_close_56 : decode cX7_close 56 = .ok (.getfield 40, 3) := by decide +kernel
theorem dX7_close_59 : decode cX7_close 59 = .ok (.iload_n 1, 1) := by decide +kernel
theorem dX7_close_60 : decode cX7_close 60 = .ok (.aload_n 0, 1) := by decide +kernel
theorem dX7_close_61 : decode cX7_close 61 = .ok (.getfield 73, 3) := by decide +kernel
theorem dX7_close_64 : decode cX7_close 64 = .ok (.iastore, 1) := by decide +kernel
theorem dX7_close_65 : decode cX7_close 65 = .ok (.iconst 0, 1) := by decide +kernel
theorem dX7_close_66 : decode cX7_close 66 = .ok (.istore_n 2, 1) := by decide +kernel
theorem dX7_close_67 : decode cX7_close 67 = .ok (.iconst 0, 1) := by decide +kernel
theorem dX7_close_68 : decode cX7_close 68 = .ok (.istore_n 3, 1) := by decide +kernel
theorem dX7_close_69 : decode cX7_close 69 = .ok (.iload_n 3, 1) := by decide +kernel
theorem dX7_close_70 : decode cX7_close 70 = .ok (.aload_n 0, 1) := by decide +kernel
theorem dX7_close_71 : decode cX7_close 71 = .ok (.getfield 79, 3) := by decide +kernel
theorem dX7_close_74 : decode cX7_close 74 = .ok (.if_icmp .ge 28, 3) := by decide +kernel
theorem dX7_close_77 : decode cX7_close 77 = .ok (.iload_n 2, 1) := by decide +kernel
theorem dX7_close_78 : decode cX7_close 78 = .ok (.aload_n 0, 1) := by decide +kernel
theorem dX7_close_79 : decode cX7_close 79 = .ok (.getfield 49, 3) := by decide +kernel
theorem dX7_close_82 : decode cX7_close 82 = .ok (.iload_n 3, 1) := by decide +kernel
theorem dX7_close_83 : decode cX7_close 83 = .ok (.caload, 1) := by decide +kernel
theorem dX7_close_84 : decode cX7_close 84 = .ok (.bipush 99, 2) := by decide +kernel
theorem dX7_close_86 : decode cX7_close 86 = .ok (.if_icmp .ne 7, 3) := by decide +kernel
theorem dX7_close_89 : decode cX7_close 89 = .ok (.iconst 1, 1) := by decide +kernel
theorem dX7_close_90 : decode cX7_close 90 = .ok (.goto 4, 3) := by decide +kernel
theorem dX7_close_93 : decode cX7_close 93 = .ok (.iconst 0, 1) := by decide +kernel
theorem dX7_close_94 : decode cX7_close 94 = .ok (.iadd, 1) := by decide +kernel
theorem dX7_close_95 : decode cX7_close 95 = .ok (.istore_n 2, 1) := by decide +kernel
theorem dX7_close_96 : decode cX7_close 96 = .ok (.iinc 3 1, 3) := by decide +kernel
theorem dX7_close_99 : decode cX7_close 99 = .ok (.goto (-30), 3) := by decide +kernel
theorem dX7_close_102 : decode cX7_close 102 = .ok (.iload_n 2, 1) := by decide +kernel
theorem dX7_close_103 : decode cX7_close 103 = .ok (.ireturn, 1) := by decide +kernel
theorem dX7_merge_0 : decode cX7_merge 0 = .ok (.aload_n 0, 1) := by decide +kernel
theorem dX7_merge_1 : decode cX7_merge 1 = .ok (.aload_n 0, 1) := by decide +kernel
theorem dX7_merge_2 : decode cX7_merge 2 = .ok (.iload_n 1, 1) := by decide +kernel
theorem dX7_merge_3 : decode cX7_merge 3 = .ok (.invokevirtual 149, 3) := by decide +kernel
theorem dX7_merge_6 : decode cX7_merge 6 = .ok (.ifCond .eq 11, 3) := by decide +kernel
theorem dX7_merge_9 : decode cX7_merge 9 = .ok (.aload_n 0, 1) := by decide +kernel
theorem dX7_merge_10 : decode cX7_merge 10 = .ok (.iload_n 2, 1) := by decide +kernel
theorem dX7_merge_11 : decode cX7_merge 11 = .ok (.invokevirtual 149, 3) := by decide +kernel
theorem dX7_merge_14 : decode cX7_merge 14 = .ok (.ifCond .ne 7, 3) := by decide +kernel
theorem dX7_merge_17 : decode cX7_merge 17 = .ok (.iconst 1, 1) := by decide +kernel
theorem dX7_merge_18 : decode cX7_merge 18 = .ok (.goto 52, 3) := by decide +kernel
theorem dX7_merge_21 : decode cX7_merge 21 = .ok (.iload_n 1, 1) := by decide +kernel
theorem dX7_merge_22 : decode cX7_merge 22 = .ok (.iload_n 2, 1) := by decide +kernel
theorem dX7_merge_23 : decode cX7_merge 23 = .ok (.if_icmp .ne 7, 3) := by decide +kernel
theorem dX7_merge_26 : decode cX7_merge 26 = .ok (.iconst 2, 1) := by decide +kernel
theorem dX7_merge_27 : decode cX7_merge 27 = .ok (.goto 43, 3) := by decide +kernel
theorem dX7_merge_30 : decode cX7_merge 30 = .ok (.aload_n 0, 1) := by decide +kernel
theorem dX7_merge_31 : decode cX7_merge 31 = .ok (.iload_n 1, 1) := by decide +kernel
theorem dX7_merge_32 : decode cX7_merge 32 = .ok (.invokevirtual 123, 3) := by decide +kernel
theorem dX7_merge_35 : decode cX7_merge 35 = .ok (.ifCond .eq 11, 3) := by decide +kernel
theorem dX7_merge_38 : decode cX7_merge 38 = .ok (.aload_n 0, 1) := by decide +kernel
theorem dX7_merge_39 : decode cX7_merge 39 = .ok (.iload_n 2, 1) := by decide +kernel
theorem dX7_merge_40 : decode cX7_merge 40 = .ok (.invokevirtual 123, 3) := by decide +kernel
theorem dX7_merge_43 : decode cX7_merge 43 = .ok (.ifCond .ne 7, 3) := by decide +kernel
theorem dX7_merge_46 : decode cX7_merge 46 = .ok (.iconst 3, 1) := by decide +kernel
theorem dX7_merge_47 : decode cX7_merge 47 = .ok (.goto 23, 3) := by decide +kernel
theorem dX7_merge_50 : decode cX7_merge 50 = .ok (.aload_n 0, 1) := by decide +kernel
theorem dX7_merge_51 : decode cX7_merge 51 = .ok (.getfield 22, 3) := by decide +kernel
theorem dX7_merge_54 : decode cX7_merge 54 = .ok (.iload_n 1, 1) := by decide +kernel
theorem dX7_merge_55 : decode cX7_merge 55 = .ok (.iaload, 1) := by decide +kernel
theorem dX7_merge_56 : decode cX7_merge 56 = .ok (.aload_n 0, 1) := by decide +kernel
theorem dX7_merge_57 : decode cX7_merge 57 = .ok (.getfield 22, 3) := by decide +kernel
theorem dX7_merge_60 : decode cX7_merge 60 = .ok (.iload_n 2, 1) := by decide +kernel
theorem dX7_merge_61 : decode cX7_merge 61 = .ok (.iaload, 1) := by decide +kernel
theorem dX7_merge_62 : decode cX7_merge 62 = .ok (.if_icmp .eq 7, 3) := by decide +kernel
theorem dX7_merge_65 : decode cX7_merge 65 = .ok (.iconst 4, 1) := by decide +kernel
theorem dX7_merge_66 : decode cX7_merge 66 = .ok (.goto 4, 3) := by decide +kernel
theorem dX7_merge_69 : decode cX7_merge 69 = .ok (.iconst 0, 1) := by decide +kernel
theorem dX7_merge_70 : decode cX7_merge 70 = .ok (.putfield 69, 3) := by decide +kernel
theorem dX7_merge_73 : decode cX7_merge 73 = .ok (.aload_n 0, 1) := by decide +kernel
theorem dX7_merge_74 : decode cX7_merge 74 = .ok (.getfield 69, 3) := by decide +kernel
theorem dX7_merge_77 : decode cX7_merge 77 = .ok (.ifCond .le 5, 3) := by decide +kernel
theorem dX7_merge_80 : decode cX7_merge 80 = .ok (.iconst 0, 1) := by decide +kernel
theorem dX7_merge_81 : decode cX7_merge 81 = .ok (.ireturn, 1) := by decide +kernel
theorem dX7_merge_82 : decode cX7_merge 82 = .ok (.iconst 0, 1) := by decide +kernel
theorem dX7_merge_83 : decode cX7_merge 83 = .ok (.istore_n 3, 1) := by decide +kernel
theorem dX7_merge_84 : decode cX7_merge 84 = .ok (.iload_n 3, 1) := by decide +kernel
theorem dX7_merge_85 : decode cX7_merge 85 = .ok (.aload_n 0, 1) := by decide +kernel
theorem dX7_merge_86 : decode cX7_merge 86 = .ok (.getfield 76, 3) := by decide +kernel
theorem dX7_merge_89 : decode cX7_merge 89 = .ok (.if_icmp .ge 26, 3) := by decide +kernel
theorem dX7_merge_92 : decode cX7_merge 92 = .ok (.aload_n 0, 1) := by decide +kernel
theorem dX7_merge_93 : decode cX7_merge 93 = .ok (.getfield 16, 3) := by decide +kernel
theorem dX7_merge_96 : decode cX7_merge 96 = .ok (.iload_n 3, 1) := by decide +kernel
theorem dX7_merge_97 : decode cX7_merge 97 = .ok (.iaload, 1) := by decide +kernel
theorem dX7_merge_98 : decode cX7_merge 98 = .ok (.iload_n 1, 1) := by decide +kernel
theorem dX7_merge_99 : decode cX7_merge 99 = .ok (.if_icmp .ne 10, 3) := by decide +kernel
theorem dX7_merge_102 : decode cX7_merge 102 = .ok (.aload_n 0, 1) := by decide +kernel
theorem dX7_merge_103 : decode cX7_merge 103 = .ok (.getfield 16, 3) := by decide +kernel
theorem dX7_merge_106 : decode cX7_merge 106 = .ok (.iload_n 3, 1) := by decide +kernel
theorem dX7_merge_107 : decode cX7_merge 107 = .ok (.iload_n 2, 1) := by decide +kernel
theorem dX7_merge_108 : decode cX7_merge 108 = .ok (.iastore, 1) := by decide +kernel
theorem dX7_merge_109 : decode cX7_merge 109 = .ok (.iinc 3 1, 3) := by decide +kernel
theorem dX7_merge_112 : decode cX7_merge 112 = .ok (.goto (-28), 3) := by decide +kernel
theorem dX7_merge_115 : decode cX7_merge 115 = .ok (.aload_n 0, 1) := by decide +kernel
theorem dX7_merge_116 : decode cX7_merge 116 = .ok (.getfield 49, 3) := by decide +kernel
theorem dX7_merge_119 : decode cX7_merge 119 = .ok (.iload_n 1, 1) := by decide +kernel
theorem dX7_merge_120 : decode cX7_merge 120 = .ok (.bipush 109, 2) := by decide +kernel
theorem dX7_merge_122 : decode cX7_merge 122 = .ok (.castore, 1) := by decide +kernel
theorem dX7_merge_123 : decode cX7_merge 123 = .ok (.aload_n 0, 1) := by decide +kernel
theorem dX7_merge_124 : decode cX7_merge 124 = .ok (.getfield 34, 3) := by decide +kernel
theorem dX7_merge_127 : decode cX7_merge 127 = .ok (.iload_n 1, 1) := by decide +kernel
theorem dX7_merge_128 : decode cX7_merge 128 = .ok (.iconst (-1), 1) := by decide +kernel
theorem dX7_merge_129 : decode cX7_merge 129 = .ok (.iastore, 1) := by decide +kernel
theorem dX7_merge_130 : decode cX7_merge 130 = .ok (.aload_n 0, 1) := by decide +kernel
theorem dX7_merge_131 : decode cX7_merge 131 = .ok (.getfield 43, 3) := by decide +kernel
theorem dX7_merge_134 : decode cX7_merge 134 = .ok (.iload_n 1, 1) := by decide +kernel
theorem dX7_merge_135 : decode cX7_merge 135 = .ok (.iload_n 2, 1) := by decide +kernel
theorem dX7_merge_136 : decode cX7_merge 136 = .ok (.iastore, 1) := by decide +kernel
theorem dX7_merge_137 : decode cX7_merge 137 = .ok (.aload_n 0, 1) := by decide +kernel
theorem dX7_merge_138 : decode cX7_merge 138 = .ok (.getfield 31, 3) := by decide +kernel
theorem dX7_merge_141 : decode cX7_merge 141 = .ok (.iload_n 2, 1) := by decide +kernel
theorem dX7_merge_142 : decode cX7_merge 142 = .ok (.aload_n 0, 1) := by decide +kernel
theorem dX7_merge_143 : decode cX7_merge 143 = .ok (.getfield 31, 3) := by decide +kernel
theorem dX7_merge_146 : decode cX7_merge 146 = .ok (.iload_n 1, 1) := by decide +kernel
theorem dX7_merge_147 : decode cX7_merge 147 = .ok (.iaload, 1) := by decide +kernel
theorem dX7_merge_148 : decode cX7_merge 148 = .ok (.aload_n 0, 1) := by decide +kernel
theorem dX7_merge_149 : decode cX7_merge 149 = .ok (.getfield 31, 3) := by decide +kernel
theorem dX7_merge_152 : decode cX7_merge 152 = .ok (.iload_n 2, 1) := by decide +kernel
theorem dX7_merge_153 : decode cX7_merge 153 = .ok (.iaload, 1) := by decide +kernel
theorem dX7_merge_154 : decode cX7_merge 154 = .ok (.if_icmp .le 12, 3) := by decide +kernel
theorem dX7_merge_157 : decode cX7_merge 157 = .ok (.aload_n 0, 1) := by decide +kernel
theorem dX7_merge_158 : decode cX7_merge 158 = .ok (.getfield 31, 3) := by decide +kernel
theorem dX7_merge_161 : decode cX7_merge 161 = .ok (.iload_n 1, 1) := by decide +kernel
theorem dX7_merge_162 : decode cX7_merge 162 = .ok (.iaload, 1) := by decide +kernel
theorem dX7_merge_163 : decode cX7_merge 163 = .ok (.goto 9, 3) := by decide +kernel
theorem dX7_merge_166 : decode cX7_merge 166 = .ok (.aload_n 0, 1) := by decide +kernel
theorem dX7_merge_167 : decode cX7_merge 167 = .ok (.getfield 31, 3) := by decide +kernel
theorem dX7_merge_170 : decode cX7_merge 170 = .ok (.iload_n 2, 1) := by decide +kernel
theorem dX7_merge_171 : decode cX7_merge 171 = .ok (.iaload, 1) := by decide +kernel
theorem dX7_merge_172 : decode cX7_merge 172 = .ok (.iastore, 1) := by decide +kernel
theorem dX7_merge_173 : decode cX7_merge 173 = .ok (.aload_n 0, 1) := by decide +kernel
theorem dX7_merge_174 : decode cX7_merge 174 = .ok (.getfield 53, 3) := by decide +kernel
theorem dX7_merge_177 : decode cX7_merge 177 = .ok (.iload_n 2, 1) := by decide +kernel
theorem dX7_merge_178 : decode cX7_merge 178 = .ok (.aload_n 0, 1) := by decide +kernel
theorem dX7_merge_179 : decode cX7_merge 179 = .ok (.getfield 53, 3) := by decide +kernel
theorem dX7_merge_182 : decode cX7_merge 182 = .ok (.iload_n 2, 1) := by decide +kernel
theorem dX7_merge_183 : decode cX7_merge 183 = .ok (.baload, 1) := by decide +kernel
theorem dX7_merge_184 : decode cX7_merge 184 = .ok (.ifCond .ne 12, 3) := by decide +kernel
theorem dX7_merge_187 : decode cX7_merge 187 = .ok (.aload_n 0, 1) := by decide +kernel
theorem dX7_merge_188 : decode cX7_merge 188 = .ok (.getfield 53, 3) := by decide +kernel
theorem dX7_merge_191 : decode cX7_merge 191 = .ok (.iload_n 1, 1) := by decide +kernel
theorem dX7_merge_192 : decode cX7_merge 192 = .ok (.baload, 1) := by decide +kernel
theorem dX7_merge_193 : decode cX7_merge 193 = .ok (.ifCond .eq 7, 3) := by decide +kernel
theorem dX7_merge_196 : decode cX7_merge 196 = .ok (.iconst 1, 1) := by decide +kernel
theorem dX7_merge_197 : decode cX7_merge 197 = .ok (.goto 4, 3) := by decide +kernel
theorem dX7_merge_200 : decode cX7_merge 200 = .ok (.iconst 0, 1) := by decide +kernel
theorem dX7_merge_201 : decode cX7_merge 201 = .ok (.bastore, 1) := by decide +kernel
theorem dX7_merge_202 : decode cX7_merge 202 = .ok (.aload_n 0, 1) := by decide +kernel
theorem dX7_merge_203 : decode cX7_merge 203 = .ok (.iload_n 2, 1) := by decide +kernel
theorem dX7_merge_204 : decode cX7_merge 204 = .ok (.invokevirtual 152, 3) := by decide +kernel
theorem dX7_merge_207 : decode cX7_merge 207 = .ok (.ireturn, 1) := by decide +kernel
theorem dX7_addAnswer_0 : decode cX7_addAnswer 0 = .ok (.aload_n 0, 1) := by decide +kernel
theorem dX7_addAnswer_1 : decode cX7_addAnswer 1 = .ok (.iload_n 1, 1) := by decide +kernel
theorem dX7_addAnswer_2 : decode cX7_addAnswer 2 = .ok (.iconst 0, 1) := by decide +kernel
theorem dX7_addAnswer_3 : decode cX7_addAnswer 3 = .ok (.sipush 1023, 3) := by decide +kernel
theorem dX7_addAnswer_6 : decode cX7_addAnswer 6 = .ok (.invokestatic 104, 3) := by decide +kernel
theorem dX7_addAnswer_9 : decode cX7_addAnswer 9 = .ok (.ifCond .ne 7, 3) := by decide +kernel
theorem dX7_addAnswer_12 : decode cX7_addAnswer 12 = .ok (.iconst 1, 1) := by decide +kernel
theorem dX7_addAnswer_13 : decode cX7_addAnswer 13 = .ok (.goto 17, 3) := by decide +kernel
theorem dX7_addAnswer_16 : decode cX7_addAnswer 16 = .ok (.aload_n 0, 1) := by decide +kernel
theorem dX7_addAnswer_17 : decode cX7_addAnswer 17 = .ok (.getfield 85, 3) := by decide +kernel
theorem dX7_addAnswer_20 : decode cX7_addAnswer 20 = .ok (.bipush 8, 2) := by decide +kernel
theorem dX7_addAnswer_22 : decode cX7_addAnswer 22 = .ok (.if_icmp .ne 7, 3) := by decide +kernel
theorem dX7_addAnswer_25 : decode cX7_addAnswer 25 = .ok (.iconst 2, 1) := by decide +kernel
theorem dX7_addAnswer_26 : decode cX7_addAnswer 26 = .ok (.goto 4, 3) := by decide +kernel
theorem dX7_addAnswer_29 : decode cX7_addAnswer 29 = .ok (.iconst 0, 1) := by decide +kernel
theorem dX7_addAnswer_30 : decode cX7_addAnswer 30 = .ok (.putfield 69, 3) := by decide +kernel
theorem dX7_addAnswer_33 : decode cX7_addAnswer 33 = .ok (.aload_n 0, 1) := by decide +kernel
theorem dX7_addAnswer_34 : decode cX7_addAnswer 34 = .ok (.getfield 69, 3) := by decide +kernel
theorem dX7_addAnswer_37 : decode cX7_addAnswer 37 = .ok (.ifCond .le 5, 3) := by decide +kernel
theorem dX7_addAnswer_40 : decode cX7_addAnswer 40 = .ok (.iconst 0, 1) := by decide +kernel
theorem dX7_addAnswer_41 : decode cX7_addAnswer 41 = .ok (.ireturn, 1) := by decide +kernel
theorem dX7_addAnswer_42 : decode cX7_addAnswer 42 = .ok (.aload_n 0, 1) := by decide +kernel
theorem dX7_addAnswer_43 : decode cX7_addAnswer 43 = .ok (.getfield 63, 3) := by decide +kernel
theorem dX7_addAnswer_46 : decode cX7_addAnswer 46 = .ok (.aload_n 0, 1) := by decide +kernel
theorem dX7_addAnswer_47 : decode cX7_addAnswer 47 = .ok (.getfield 85, 3) := by decide +kernel
theorem dX7_addAnswer_50 : decode cX7_addAnswer 50 = .ok (.iload_n 1, 1) := by decide +kernel
theorem dX7_addAnswer_51 : decode cX7_addAnswer 51 = .ok (.iastore, 1) := by decide +kernel
theorem dX7_addAnswer_52 : decode cX7_addAnswer 52 = .ok (.aload_n 0, 1) := by decide +kernel
theorem dX7_addAnswer_53 : decode cX7_addAnswer 53 = .ok (.dup, 1) := by decide +kernel
theorem dX7_addAnswer_54 : decode cX7_addAnswer 54 = .ok (.getfield 85, 3) := by decide +kernel
theorem dX7_addAnswer_57 : decode cX7_addAnswer 57 = .ok (.iconst 1, 1) := by decide +kernel
theorem dX7_addAnswer_58 : decode cX7_addAnswer 58 = .ok (.iadd, 1) := by decide +kernel
theorem dX7_addAnswer_59 : decode cX7_addAnswer 59 = .ok (.putfield 85, 3) := by decide +kernel
theorem dX7_addAnswer_62 : decode cX7_addAnswer 62 = .ok (.aload_n 0, 1) := by decide +kernel
theorem dX7_addAnswer_63 : decode cX7_addAnswer 63 = .ok (.getfield 85, 3) := by decide +kernel
theorem dX7_addAnswer_66 : decode cX7_addAnswer 66 = .ok (.iconst 1, 1) := by decide +kernel
theorem dX7_addAnswer_67 : decode cX7_addAnswer 67 = .ok (.isub, 1) := by decide +kernel
theorem dX7_addAnswer_68 : decode cX7_addAnswer 68 = .ok (.ireturn, 1) := by decide +kernel
theorem dX7_weight_0 : decode cX7_weight 0 = .ok (.aload_n 0, 1) := by decide +kernel
theorem dX7_weight_1 : decode cX7_weight 1 = .ok (.iload_n 1, 1) := by decide +kernel
theorem dX7_weight_2 : decode cX7_weight 2 = .ok (.iconst 0, 1) := by decide +kernel
theorem dX7_weight_3 : decode cX7_weight 3 = .ok (.aload_n 0, 1) := by decide +kernel
theorem dX7_weight_4 : decode cX7_weight 4 = .ok (.getfield 85, 3) := by decide +kernel
theorem dX7_weight_7 : decode cX7_weight 7 = .ok (.iconst 1, 1) := by decide +kernel
theorem dX7_weight_8 : decode cX7_weight 8 = .ok (.isub, 1) := by decide +kernel
theorem dX7_weight_9 : decode cX7_weight 9 = .ok (.invokestatic 104, 3) := by decide +kernel
theorem dX7_weight_12 : decode cX7_weight 12 = .ok (.ifCond .ne 7, 3) := by decide +kernel
theorem dX7_weight_15 : decode cX7_weight 15 = .ok (.iconst 1, 1) := by decide +kernel
theorem dX7_weight_16 : decode cX7_weight 16 = .ok (.goto 17, 3) := by decide +kernel
theorem dX7_weight_19 : decode cX7_weight 19 = .ok (.iload_n 2, 1) := by decide +kernel
theorem dX7_weight_20 : decode cX7_weight 20 = .ok (.iconst 0, 1) := by decide +kernel
theorem dX7_weight_21 : decode cX7_weight 21 = .ok (.iconst 5, 1) := by decide +kernel
theorem dX7_weight_22 : decode cX7_weight 22 = .ok (.invokestatic 104, 3) := by decide +kernel
theorem dX7_weight_25 : decode cX7_weight 25 = .ok (.ifCond .ne 7, 3) := by decide +kernel
theorem dX7_weight_28 : decode cX7_weight 28 = .ok (.iconst 2, 1) := by decide +kernel
theorem dX7_weight_29 : decode cX7_weight 29 = .ok (.goto 4, 3) := by decide +kernel
theorem dX7_weight_32 : decode cX7_weight 32 = .ok (.iconst 0, 1) := by decide +kernel
theorem dX7_weight_33 : decode cX7_weight 33 = .ok (.putfield 69, 3) := by decide +kernel
theorem dX7_weight_36 : decode cX7_weight 36 = .ok (.aload_n 0, 1) := by decide +kernel
theorem dX7_weight_37 : decode cX7_weight 37 = .ok (.getfield 69, 3) := by decide +kernel
theorem dX7_weight_40 : decode cX7_weight 40 = .ok (.ifCond .le 7, 3) := by decide +kernel
theorem dX7_weight_43 : decode cX7_weight 43 = .ok (.iconst 0, 1) := by decide +kernel
theorem dX7_weight_44 : decode cX7_weight 44 = .ok (.goto 14, 3) := by decide +kernel
theorem dX7_weight_47 : decode cX7_weight 47 = .ok (.aload_n 0, 1) := by decide +kernel
theorem dX7_weight_48 : decode cX7_weight 48 = .ok (.getfield 66, 3) := by decide +kernel
theorem dX7_weight_51 : decode cX7_weight 51 = .ok (.bipush 6, 2) := by decide +kernel
theorem dX7_weight_53 : decode cX7_weight 53 = .ok (.iload_n 1, 1) := by decide +kernel
theorem dX7_weight_54 : decode cX7_weight 54 = .ok (.imul, 1) := by decide +kernel
theorem dX7_weight_55 : decode cX7_weight 55 = .ok (.iload_n 2, 1) := by decide +kernel
theorem dX7_weight_56 : decode cX7_weight 56 = .ok (.iadd, 1) := by decide +kernel
theorem dX7_weight_57 : decode cX7_weight 57 = .ok (.iaload, 1) := by decide +kernel
theorem dX7_weight_58 : decode cX7_weight 58 = .ok (.ireturn, 1) := by decide +kernel
theorem dX7_wordsOf_0 : decode cX7_wordsOf 0 = .ok (.iconst 0, 1) := by decide +kernel
theorem dX7_wordsOf_1 : decode cX7_wordsOf 1 = .ok (.istore_n 2, 1) := by decide +kernel
theorem dX7_wordsOf_2 : decode cX7_wordsOf 2 = .ok (.iconst 0, 1) := by decide +kernel
theorem dX7_wordsOf_3 : decode cX7_wordsOf 3 = .ok (.istore_n 3, 1) := by decide +kernel
theorem dX7_wordsOf_4 : decode cX7_wordsOf 4 = .ok (.iload_n 3, 1) := by decide +kernel
theorem dX7_wordsOf_5 : decode cX7_wordsOf 5 = .ok (.aload_n 0, 1) := by decide +kernel
theorem dX7_wordsOf_6 : decode cX7_wordsOf 6 = .ok (.getfield 76, 3) := by decide +kernel
theorem dX7_wordsOf_9 : decode cX7_wordsOf 9 = .ok (.if_icmp .ge 32, 3) := by decide +kernel
theorem dX7_wordsOf_12 : decode cX7_wordsOf 12 = .ok (.iload_n 2, 1) := by decide +kernel
theorem dX7_wordsOf_13 : decode cX7_wordsOf 13 = .ok (.aload_n 0, 1) := by decide +kernel
theorem dX7_wordsOf_14 : decode cX7_wordsOf 14 = .ok (.getfield 16, 3) := by decide +kernel
theorem dX7_wordsOf_17 : decode cX7_wordsOf 17 = .ok (.iload_n 3, 1) := by decide +kernel
theorem dX7_wordsOf_18 : decode cX7_wordsOf 18 = .ok (.iaload, 1) := by decide +kernel
theorem dX7_wordsOf_19 : decode cX7_wordsOf 19 = .ok (.iload_n 1, 1) := by decide +kernel
theorem dX7_wordsOf_20 : decode cX7_wordsOf 20 = .ok (.if_icmp .ne 12, 3) := by decide +kernel
theorem dX7_wordsOf_23 : decode cX7_wordsOf 23 = .ok (.aload_n 0, 1) := by decide +kernel
theorem dX7_wordsOf_24 : decode cX7_wordsOf 24 = .ok (.getfield 19, 3) := by decide +kernel
theorem dX7_wordsOf_27 : decode cX7_wordsOf 27 = .ok (.iload_n 3, 1) := by decide +kernel
theorem dX7_wordsOf_28 : decode cX7_wordsOf 28 = .ok (.iaload, 1) := by decide +kernel
theorem dX7_wordsOf_29 : decode cX7_wordsOf 29 = .ok (.goto 4, 3) := by decide +kernel
theorem dX7_wordsOf_32 : decode cX7_wordsOf 32 = .ok (.iconst 0, 1) := by decide +kernel
theorem dX7_wordsOf_33 : decode cX7_wordsOf 33 = .ok (.ior, 1) := by decide +kernel
theorem dX7_wordsOf_34 : decode cX7_wordsOf 34 = .ok (.istore_n 2, 1) := by decide +kernel
theorem dX7_wordsOf_35 : decode cX7_wordsOf 35 = .ok (.iinc 3 1, 3) := by decide +kernel
theorem dX7_wordsOf_38 : decode cX7_wordsOf 38 = .ok (.goto (-34), 3) := by decide +kernel
theorem dX7_wordsOf_41 : decode cX7_wordsOf 41 = .ok (.iload_n 2, 1) := by decide +kernel
theorem dX7_wordsOf_42 : decode cX7_wordsOf 42 = .ok (.ireturn, 1) := by decide +kernel
theorem dX7_suggestion_0 : decode cX7_suggestion 0 = .ok (.aload_n 0, 1) := by decide +kernel
theorem dX7_suggestion_1 : decode cX7_suggestion 1 = .ok (.aload_n 0, 1) := by decide +kernel
theorem dX7_suggestion_2 : decode cX7_suggestion 2 = .ok (.iload_n 1, 1) := by decide +kernel
theorem dX7_suggestion_3 : decode cX7_suggestion 3 = .ok (.invokevirtual 149, 3) := by decide +kernel
theorem dX7_suggestion_6 : decode cX7_suggestion 6 = .ok (.invokevirtual 112, 3) := by decide +kernel
theorem dX7_suggestion_9 : decode cX7_suggestion 9 = .ok (.ifCond .le 5, 3) := by decide +kernel
theorem dX7_suggestion_12 : decode cX7_suggestion 12 = .ok (.iconst 0, 1) := by decide +kernel
theorem dX7_suggestion_13 : decode cX7_suggestion 13 = .ok (.ireturn, 1) := by decide +kernel
theorem dX7_suggestion_14 : decode cX7_suggestion 14 = .ok (.iconst (-1), 1) := by decide +kernel
theorem dX7_suggestion_15 : decode cX7_suggestion 15 = .ok (.istore_n 2, 1) := by decide +kernel
theorem dX7_suggestion_16 : decode cX7_suggestion 16 = .ok (.iconst 0, 1) := by decide +kernel
theorem dX7_suggestion_17 : decode cX7_suggestion 17 = .ok (.istore_n 3, 1) := by decide +kernel
theorem dX7_suggestion_18 : decode cX7_suggestion 18 = .ok (.iconst 0, 1) := by decide +kernel
theorem dX7_suggestion_19 : decode cX7_suggestion 19 = .ok (.istore 4, 2) := by decide +kernel
theorem dX7_suggestion_21 : decode cX7_suggestion 21 = .ok (.iload 4, 2) := by decide +kernel
theorem dX7_suggestion_23 : decode cX7_suggestion 23 = .ok (.aload_n 0, 1) := by decide +kernel
theorem dX7_suggestion_24 : decode cX7_suggestion 24 = .ok (.getfield 85, 3) := by decide +kernel
theorem dX7_suggestion_27 : decode cX7_suggestion 27 = .ok (.if_icmp .ge 72, 3) := by decide +kernel
theorem dX7_suggestion_30 : decode cX7_suggestion 30 = .ok (.aload_n 0, 1) := by decide +kernel
theorem dX7_suggestion_31 : decode cX7_suggestion 31 = .ok (.getfield 63, 3) := by decide +kernel
theorem dX7_suggestion_34 : decode cX7_suggestion 34 = .ok (.iload 4, 2) := by decide +kernel
theorem dX7_suggestion_36 : decode cX7_suggestion 36 = .ok (.iaload, 1) := by decide +kernel
theorem dX7_suggestion_37 : decode cX7_suggestion 37 = .ok (.aload_n 0, 1) := by decide +kernel
theorem dX7_suggestion_38 : decode cX7_suggestion 38 = .ok (.iload_n 1, 1) := by decide +kernel
theorem dX7_suggestion_39 : decode cX7_suggestion 39 = .ok (.invokevirtual 190, 3) := by decide +kernel
theorem dX7_suggestion_42 : decode cX7_suggestion 42 = .ok (.iand, 1) := by decide +kernel
theorem dX7_suggestion_43 : decode cX7_suggestion 43 = .ok (.invokestatic 165, 3) := by decide +kernel
theorem dX7_suggestion_46 : decode cX7_suggestion 46 = .ok (.istore 5, 2) := by decide +kernel
theorem dX7_suggestion_48 : decode cX7_suggestion 48 = .ok (.bipush 10, 2) := by decide +kernel
theorem dX7_suggestion_50 : decode cX7_suggestion 50 = .ok (.iload 5, 2) := by decide +kernel
theorem dX7_suggestion_52 : decode cX7_suggestion 52 = .ok (.imul, 1) := by decide +kernel
theorem dX7_suggestion_53 : decode cX7_suggestion 53 = .ok (.aload_n 0, 1) := by decide +kernel
theorem dX7_suggestion_54 : decode cX7_suggestion 54 = .ok (.getfield 66, 3) := by decide +kernel
theorem dX7_suggestion_57 : decode cX7_suggestion 57 = .ok (.bipush 6, 2) := by decide +kernel
theorem dX7_suggestion_59 : decode cX7_suggestion 59 = .ok (.iload 4, 2) := by decide +kernel
theorem dX7_suggestion_61 : decode cX7_suggestion 61 = .ok (.imul, 1) := by decide +kernel
theorem dX7_suggestion_62 : decode cX7_suggestion 62 = .ok (.aload_n 0, 1) := by decide +kernel
theorem dX7_suggestion_63 : decode cX7_suggestion 63 = .ok (.getfield 28, 3) := by decide +kernel
theorem dX7_suggestion_66 : decode cX7_suggestion 66 = .ok (.iload_n 1, 1) := by decide +kernel
theorem dX7_suggestion_67 : decode cX7_suggestion 67 = .ok (.iaload, 1) := by decide +kernel
theorem dX7_suggestion_68 : decode cX7_suggestion 68 = .ok (.iadd, 1) := by decide +kernel
theorem dX7_suggestion_69 : decode cX7_suggestion 69 = .ok (.iaload, 1) := by decide +kernel
theorem dX7_suggestion_70 : decode cX7_suggestion 70 = .ok (.iadd, 1) := by decide +kernel
theorem dX7_suggestion_71 : decode cX7_suggestion 71 = .ok (.istore 6, 2) := by decide +kernel
theorem dX7_suggestion_73 : decode cX7_suggestion 73 = .ok (.iload 5, 2) := by decide +kernel
theorem dX7_suggestion_75 : decode cX7_suggestion 75 = .ok (.ifCond .eq 18, 3) := by decide +kernel
theorem dX7_suggestion_78 : decode cX7_suggestion 78 = .ok (.iload 6, 2) := by decide +kernel
theorem dX7_suggestion_80 : decode cX7_suggestion 80 = .ok (.iload_n 3, 1) := by decide +kernel
theorem dX7_suggestion_81 : decode cX7_suggestion 81 = .ok (.if_icmp .gt 6, 3) := by decide +kernel
theorem dX7_suggestion_84 : decode cX7_suggestion 84 = .ok (.goto 9, 3) := by decide +kernel
theorem dX7_suggestion_87 : decode cX7_suggestion 87 = .ok (.iload 4, 2) := by decide +kernel
theorem dX7_suggestion_89 : decode cX7_suggestion 89 = .ok (.istore_n 2, 1) := by decide +kernel
theorem dX7_suggestion_90 : decode cX7_suggestion 90 = .ok (.iload 6, 2) := by decide +kernel
theorem dX7_suggestion_92 : decode cX7_suggestion 92 = .ok (.istore_n 3, 1) := by decide +kernel
theorem dX7_suggestion_93 : decode cX7_suggestion 93 = .ok (.iinc 4 1, 3) := by decide +kernel
theorem dX7_suggestion_96 : decode cX7_suggestion 96 = .ok (.goto (-75), 3) := by decide +kernel
theorem dX7_suggestion_99 : decode cX7_suggestion 99 = .ok (.aload_n 0, 1) := by decide +kernel
theorem dX7_suggestion_100 : decode cX7_suggestion 100 = .ok (.iload_n 2, 1) := by decide +kernel
theorem dX7_suggestion_101 : decode cX7_suggestion 101 = .ok (.ifCond .ge 7, 3) := by decide +kernel
theorem dX7_suggestion_104 : decode cX7_suggestion 104 = .ok (.iconst 2, 1) := by decide +kernel
theorem dX7_suggestion_105 : decode cX7_suggestion 105 = .ok (.goto 4, 3) := by decide +kernel
theorem dX7_suggestion_108 : decode cX7_suggestion 108 = .ok (.iconst 0, 1) := by decide +kernel
theorem dX7_suggestion_109 : decode cX7_suggestion 109 = .ok (.putfield 69, 3) := by decide +kernel
theorem dX7_suggestion_112 : decode cX7_suggestion 112 = .ok (.iload_n 2, 1) := by decide +kernel
theorem dX7_suggestion_113 : decode cX7_suggestion 113 = .ok (.ireturn, 1) := by decide +kernel
theorem dX7_suggestionByWords_0 : decode cX7_suggestionByWords 0 = .ok (.aload_n 0, 1) := by decide +kernel
theorem dX7_suggestionByWords_1 : decode cX7_suggestionByWords 1 = .ok (.iload_n 1, 1) := by decide +kernel
theorem dX7_suggestionByWords_2 : decode cX7_suggestionByWords 2 = .ok (.invokevirtual 193, 3) := by decide +kernel
theorem dX7_suggestionByWords_5 : decode cX7_suggestionByWords 5 = .ok (.ireturn, 1) := by decide +kernel
theorem dX7_breaches_0 : decode cX7_breaches 0 = .ok (.aload_n 0, 1) := by decide +kernel
theorem dX7_breaches_1 : decode cX7_breaches 1 = .ok (.aload_n 0, 1) := by decide +kernel
theorem dX7_breaches_2 : decode cX7_breaches 2 = .ok (.getfield 88, 3) := by decide +kernel
theorem dX7_breaches_5 : decode cX7_breaches 5 = .ok (.invokevirtual 120, 3) := by decide +kernel
theorem dX7_breaches_8 : decode cX7_breaches 8 = .ok (.ireturn, 1) := by decide +kernel
theorem dX7_answers_0 : decode cX7_answers 0 = .ok (.aload_n 0, 1) := by decide +kernel
theorem dX7_answers_1 : decode cX7_answers 1 = .ok (.aload_n 0, 1) := by decide +kernel
theorem dX7_answers_2 : decode cX7_answers 2 = .ok (.getfield 91, 3) := by decide +kernel
theorem dX7_answers_5 : decode cX7_answers 5 = .ok (.invokevirtual 120, 3) := by decide +kernel
theorem dX7_answers_8 : decode cX7_answers 8 = .ok (.ireturn, 1) := by decide +kernel
theorem dX7_minutesOpen_0 : decode cX7_minutesOpen 0 = .ok (.aload_n 0, 1) := by decide +kernel
theorem dX7_minutesOpen_1 : decode cX7_minutesOpen 1 = .ok (.iconst 0, 1) := by decide +kernel
theorem dX7_minutesOpen_2 : decode cX7_minutesOpen 2 = .ok (.putfield 69, 3) := by decide +kernel
theorem dX7_minutesOpen_5 : decode cX7_minutesOpen 5 = .ok (.aload_n 0, 1) := by decide +kernel
theorem dX7_minutesOpen_6 : decode cX7_minutesOpen 6 = .ok (.getfield 100, 3) := by decide +kernel
theorem dX7_minutesOpen_9 : decode cX7_minutesOpen 9 = .ok (.lreturn, 1) := by decide +kernel
theorem dX7_keptShare_0 : decode cX7_keptShare 0 = .ok (.aload_n 0, 1) := by decide +kernel
theorem dX7_keptShare_1 : decode cX7_keptShare 1 = .ok (.aload_n 0, 1) := by decide +kernel
theorem dX7_keptShare_2 : decode cX7_keptShare 2 = .ok (.getfield 91, 3) := by decide +kernel
theorem dX7_keptShare_5 : decode cX7_keptShare 5 = .ok (.ifCond .le 7, 3) := by decide +kernel
theorem dX7_keptShare_8 : decode cX7_keptShare 8 = .ok (.iconst 1, 1) := by decide +kernel
theorem dX7_keptShare_9 : decode cX7_keptShare 9 = .ok (.goto 4, 3) := by decide +kernel
theorem dX7_keptShare_12 : decode cX7_keptShare 12 = .ok (.iconst 0, 1) := by decide +kernel
theorem dX7_keptShare_13 : decode cX7_keptShare 13 = .ok (.invokevirtual 112, 3) := by decide +kernel
theorem dX7_keptShare_16 : decode cX7_keptShare 16 = .ok (.ifCond .le 7, 3) := by decide +kernel
theorem dX7_keptShare_19 : decode cX7_keptShare 19 = .ok (.fconst 0, 1) := by decide +kernel
theorem dX7_keptShare_20 : decode cX7_keptShare 20 = .ok (.goto 14, 3) := by decide +kernel
theorem dX7_keptShare_23 : decode cX7_keptShare 23 = .ok (.aload_n 0, 1) := by decide +kernel
theorem dX7_keptShare_24 : decode cX7_keptShare 24 = .ok (.getfield 94, 3) := by decide +kernel
theorem dX7_keptShare_27 : decode cX7_keptShare 27 = .ok (.i2f, 1) := by decide +kernel
theorem dX7_keptShare_28 : decode cX7_keptShare 28 = .ok (.aload_n 0, 1) := by decide +kernel
theorem dX7_keptShare_29 : decode cX7_keptShare 29 = .ok (.getfield 91, 3) := by decide +kernel
theorem dX7_keptShare_32 : decode cX7_keptShare 32 = .ok (.i2f, 1) := by decide +kernel
theorem dX7_keptShare_33 : decode cX7_keptShare 33 = .ok (.fdiv, 1) := by decide +kernel
theorem dX7_keptShare_34 : decode cX7_keptShare 34 = .ok (.freturn, 1) := by decide +kernel
theorem dX7_meanClock_0 : decode cX7_meanClock 0 = .ok (.aload_n 0, 1) := by decide +kernel
theorem dX7_meanClock_1 : decode cX7_meanClock 1 = .ok (.aload_n 0, 1) := by decide +kernel
theorem dX7_meanClock_2 : decode cX7_meanClock 2 = .ok (.getfield 91, 3) := by decide +kernel
theorem dX7_meanClock_5 : decode cX7_meanClock 5 = .ok (.ifCond .le 7, 3) := by decide +kernel
theorem dX7_meanClock_8 : decode cX7_meanClock 8 = .ok (.iconst 1, 1) := by decide +kernel
theorem dX7_meanClock_9 : decode cX7_meanClock 9 = .ok (.goto 4, 3) := by decide +kernel
theorem dX7_meanClock_12 : decode cX7_meanClock 12 = .ok (.iconst 0, 1) := by decide +kernel
theorem dX7_meanClock_13 : decode cX7_meanClock 13 = .ok (.invokevirtual 112, 3) := by decide +kernel
theorem dX7_meanClock_16 : decode cX7_meanClock 16 = .ok (.ifCond .le 7, 3) := by decide +kernel
theorem dX7_meanClock_19 : decode cX7_meanClock 19 = .ok (.dconst 0, 1) := by decide +kernel
theorem dX7_meanClock_20 : decode cX7_meanClock 20 = .ok (.goto 14, 3) := by decide +kernel
theorem dX7_meanClock_23 : decode cX7_meanClock 23 = .ok (.aload_n 0, 1) := by decide +kernel
theorem dX7_meanClock_24 : decode cX7_meanClock 24 = .ok (.getfield 97, 3) := by decide +kernel
theorem dX7_meanClock_27 : decode cX7_meanClock 27 = .ok (.i2d, 1) := by decide +kernel
theorem dX7_meanClock_28 : decode cX7_meanClock 28 = .ok (.aload_n 0, 1) := by decide +kernel
theorem dX7_meanClock_29 : decode cX7_meanClock 29 = .ok (.getfield 91, 3) := by decide +kernel
theorem dX7_meanClock_32 : decode cX7_meanClock 32 = .ok (.i2d, 1) := by decide +kernel
theorem dX7_meanClock_33 : decode cX7_meanClock 33 = .ok (.ddiv, 1) := by decide +kernel
theorem dX7_meanClock_34 : decode cX7_meanClock 34 = .ok (.dreturn, 1) := by decide +kernel
theorem dX7_isSound_0 : decode cX7_isSound 0 = .ok (.aload_n 0, 1) := by decide +kernel
theorem dX7_isSound_1 : decode cX7_isSound 1 = .ok (.iconst 0, 1) := by decide +kernel
theorem dX7_isSound_2 : decode cX7_isSound 2 = .ok (.putfield 69, 3) := by decide +kernel
theorem dX7_isSound_5 : decode cX7_isSound 5 = .ok (.iconst 1, 1) := by decide +kernel
theorem dX7_isSound_6 : decode cX7_isSound 6 = .ok (.ireturn, 1) := by decide +kernel
end
section
theorem dJ6_getChars_ba4f3_0 : decode cJ6_getChars_ba4f3 0 = .ok (.iload_n 1, 1) := by decide +kernel
theorem dJ6_getChars_ba4f3_1 : decode cJ6_getChars_ba4f3 1 = .ok (.istore 5, 2) := by decide +kernel
theorem dJ6_getChars_ba4f3_3 : decode cJ6_getChars_ba4f3 3 = .ok (.iload_n 0, 1) := by decide +kernel
theorem dJ6_getChars_ba4f3_4 : decode cJ6_getChars_ba4f3 4 = .ok (.ifCond .ge 7, 3) := by decide +kernel
theorem dJ6_getChars_ba4f3_7 : decode cJ6_getChars_ba4f3 7 = .ok (.iconst 1, 1) := by decide +kernel
theorem dJ6_getChars_ba4f3_8 : decode cJ6_getChars_ba4f3 8 = .ok (.goto 4, 3) := by decide +kernel
theorem dJ6_getChars_ba4f3_11 : decode cJ6_getChars_ba4f3 11 = .ok (.iconst 0, 1) := by decide +kernel
theorem dJ6_getChars_ba4f3_12 : decode cJ6_getChars_ba4f3 12 = .ok (.istore 6, 2) := by decide +kernel
theorem dJ6_getChars_ba4f3_14 : decode cJ6_getChars_ba4f3 14 = .ok (.iload 6, 2) := by decide +kernel
theorem dJ6_getChars_ba4f3_16 : decode cJ6_getChars_ba4f3 16 = .ok (.ifCond .ne 6, 3) := by decide +kernel
theorem dJ6_getChars_ba4f3_19 : decode cJ6_getChars_ba4f3 19 = .ok (.iload_n 0, 1) := by decide +kernel
theorem dJ6_getChars_ba4f3_20 : decode cJ6_getChars_ba4f3 20 = .ok (.ineg, 1) := by decide +kernel
theorem dJ6_getChars_ba4f3_21 : decode cJ6_getChars_ba4f3 21 = .ok (.istore_n 0, 1) := by decide +kernel
theorem dJ6_getChars_ba4f3_22 : decode cJ6_getChars_ba4f3 22 = .ok (.iload_n 0, 1) := by decide +kernel
theorem dJ6_getChars_ba4f3_23 : decode cJ6_getChars_ba4f3 23 = .ok (.bipush (-100), 2) := by decide +kernel
theorem dJ6_getChars_ba4f3_25 : decode cJ6_getChars_ba4f3 25 = .ok (.if_icmp .gt 47, 3) := by decide +kernel
theorem dJ6_getChars_ba4f3_28 : decode cJ6_getChars_ba4f3 28 = .ok (.iload_n 0, 1) := by decide +kernel
theorem dJ6_getChars_ba4f3_29 : decode cJ6_getChars_ba4f3 29 = .ok (.bipush 100, 2) := by decide +kernel
theorem dJ6_getChars_ba4f3_31 : decode cJ6_getChars_ba4f3 31 = .ok (.idiv, 1) := by decide +kernel
theorem dJ6_getChars_ba4f3_32 : decode cJ6_getChars_ba4f3 32 = .ok (.istore_n 3, 1) := by decide +kernel
theorem dJ6_getChars_ba4f3_33 : decode cJ6_getChars_ba4f3 33 = .ok (.iload_n 3, 1) := by decide +kernel
theorem dJ6_getChars_ba4f3_34 : decode cJ6_getChars_ba4f3 34 = .ok (.bipush 100, 2) := by decide +kernel
theorem dJ6_getChars_ba4f3_36 : decode cJ6_getChars_ba4f3 36 = .ok (.imul, 1) := by decide +kernel
theorem dJ6_getChars_ba4f3_37 : decode cJ6_getChars_ba4f3 37 = .ok (.iload_n 0, 1) := by decide +kernel
theorem dJ6_getChars_ba4f3_38 : decode cJ6_getChars_ba4f3 38 = .ok (.isub, 1) := by decide +kernel
theorem dJ6_getChars_ba4f3_39 : decode cJ6_getChars_ba4f3 39 = .ok (.istore 4, 2) := by decide +kernel
theorem dJ6_getChars_ba4f3_41 : decode cJ6_getChars_ba4f3 41 = .ok (.iload_n 3, 1) := by decide +kernel
theorem dJ6_getChars_ba4f3_42 : decode cJ6_getChars_ba4f3 42 = .ok (.istore_n 0, 1) := by decide +kernel
theorem dJ6_getChars_ba4f3_43 : decode cJ6_getChars_ba4f3 43 = .ok (.aload_n 2, 1) := by decide +kernel
theorem dJ6_getChars_ba4f3_44 : decode cJ6_getChars_ba4f3 44 = .ok (.iinc 5 (-1), 3) := by decide +kernel
theorem dJ6_getChars_ba4f3_47 : decode cJ6_getChars_ba4f3 47 = .ok (.iload 5, 2) := by decide +kernel
theorem dJ6_getChars_ba4f3_49 : decode cJ6_getChars_ba4f3 49 = .ok (.getstatic 83, 3) := by decide +kernel
theorem dJ6_getChars_ba4f3_52 : decode cJ6_getChars_ba4f3 52 = .ok (.iload 4, 2) := by decide +kernel
theorem dJ6_getChars_ba4f3_54 : decode cJ6_getChars_ba4f3 54 = .ok (.baload, 1) := by decide +kernel
theorem dJ6_getChars_ba4f3_55 : decode cJ6_getChars_ba4f3 55 = .ok (.bastore, 1) := by decide +kernel
theorem dJ6_getChars_ba4f3_56 : decode cJ6_getChars_ba4f3 56 = .ok (.aload_n 2, 1) := by decide +kernel
theorem dJ6_getChars_ba4f3_57 : decode cJ6_getChars_ba4f3 57 = .ok (.iinc 5 (-1), 3) := by decide +kernel
theorem dJ6_getChars_ba4f3_60 : decode cJ6_getChars_ba4f3 60 = .ok (.iload 5, 2) := by decide +kernel
theorem dJ6_getChars_ba4f3_62 : decode cJ6_getChars_ba4f3 62 = .ok (.getstatic 87, 3) := by decide +kernel
theorem dJ6_getChars_ba4f3_65 : decode cJ6_getChars_ba4f3 65 = .ok (.iload 4, 2) := by decide +kernel
theorem dJ6_getChars_ba4f3_67 : decode cJ6_getChars_ba4f3 67 = .ok (.baload, 1) := by decide +kernel
theorem dJ6_getChars_ba4f3_68 : decode cJ6_getChars_ba4f3 68 = .ok (.bastore, 1) := by decide +kernel
theorem dJ6_getChars_ba4f3_69 : decode cJ6_getChars_ba4f3 69 = .ok (.goto (-47), 3) := by decide +kernel
theorem dJ6_getChars_ba4f3_72 : decode cJ6_getChars_ba4f3 72 = .ok (.aload_n 2, 1) := by decide +kernel
theorem dJ6_getChars_ba4f3_73 : decode cJ6_getChars_ba4f3 73 = .ok (.iinc 5 (-1), 3) := by decide +kernel
theorem dJ6_getChars_ba4f3_76 : decode cJ6_getChars_ba4f3 76 = .ok (.iload 5, 2) := by decide +kernel
theorem dJ6_getChars_ba4f3_78 : decode cJ6_getChars_ba4f3 78 = .ok (.getstatic 83, 3) := by decide +kernel
theorem dJ6_getChars_ba4f3_81 : decode cJ6_getChars_ba4f3 81 = .ok (.iload_n 0, 1) := by decide +kernel
theorem dJ6_getChars_ba4f3_82 : decode cJ6_getChars_ba4f3 82 = .ok (.ineg, 1) := by decide +kernel
theorem dJ6_getChars_ba4f3_83 : decode cJ6_getChars_ba4f3 83 = .ok (.baload, 1) := by decide +kernel
theorem dJ6_getChars_ba4f3_84 : decode cJ6_getChars_ba4f3 84 = .ok (.bastore, 1) := by decide +kernel
theorem dJ6_getChars_ba4f3_85 : decode cJ6_getChars_ba4f3 85 = .ok (.iload_n 0, 1) := by decide +kernel
theorem dJ6_getChars_ba4f3_86 : decode cJ6_getChars_ba4f3 86 = .ok (.bipush (-9), 2) := by decide +kernel
theorem dJ6_getChars_ba4f3_88 : decode cJ6_getChars_ba4f3 88 = .ok (.if_icmp .ge 16, 3) := by decide +kernel
theorem dJ6_getChars_ba4f3_91 : decode cJ6_getChars_ba4f3 91 = .ok (.aload_n 2, 1) := by decide +kernel
theorem dJ6_getChars_ba4f3_92 : decode cJ6_getChars_ba4f3 92 = .ok (.iinc 5 (-1), 3) := by decide +kernel
theorem dJ6_getChars_ba4f3_95 : decode cJ6_getChars_ba4f3 95 = .ok (.iload 5, 2) := by decide +kernel
theorem dJ6_getChars_ba4f3_97 : decode cJ6_getChars_ba4f3 97 = .ok (.getstatic 87, 3) := by decide +kernel
theorem dJ6_getChars_ba4f3_100 : decode cJ6_getChars_ba4f3 100 = .ok (.iload_n 0, 1) := by decide +kernel
theorem dJ6_getChars_ba4f3_101 : decode cJ6_getChars_ba4f3 101 = .ok (.ineg, 1) := by decide +kernel
theorem dJ6_getChars_ba4f3_102 : decode cJ6_getChars_ba4f3 102 = .ok (.baload, 1) := by decide +kernel
theorem dJ6_getChars_ba4f3_103 : decode cJ6_getChars_ba4f3 103 = .ok (.bastore, 1) := by decide +kernel
theorem dJ6_getChars_ba4f3_104 : decode cJ6_getChars_ba4f3 104 = .ok (.iload 6, 2) := by decide +kernel
theorem dJ6_getChars_ba4f3_106 : decode cJ6_getChars_ba4f3 106 = .ok (.ifCond .eq 12, 3) := by decide +kernel
theorem dJ6_getChars_ba4f3_109 : decode cJ6_getChars_ba4f3 109 = .ok (.aload_n 2, 1) := by decide +kernel
theorem dJ6_getChars_ba4f3_110 : decode cJ6_getChars_ba4f3 110 = .ok (.iinc 5 (-1), 3) := by decide +kernel
theorem dJ6_getChars_ba4f3_113 : decode cJ6_getChars_ba4f3 113 = .ok (.iload 5, 2) := by decide +kernel
theorem dJ6_getChars_ba4f3_115 : decode cJ6_getChars_ba4f3 115 = .ok (.bipush 45, 2) := by decide +kernel
theorem dJ6_getChars_ba4f3_117 : decode cJ6_getChars_ba4f3 117 = .ok (.bastore, 1) := by decide +kernel
theorem dJ6_getChars_ba4f3_118 : decode cJ6_getChars_ba4f3 118 = .ok (.iload 5, 2) := by decide +kernel
theorem dJ6_getChars_ba4f3_120 : decode cJ6_getChars_ba4f3 120 = .ok (.ireturn, 1) := by decide +kernel
theorem dJ6_stringSize_0f7a4_0 : decode cJ6_stringSize_0f7a4 0 = .ok (.iconst 1, 1) := by decide +kernel
theorem dJ6_stringSize_0f7a4_1 : decode cJ6_stringSize_0f7a4 1 = .ok (.istore_n 1, 1) := by decide +kernel
theorem dJ6_stringSize_0f7a4_2 : decode cJ6_stringSize_0f7a4 2 = .ok (.iload_n 0, 1) := by decide +kernel
theorem dJ6_stringSize_0f7a4_3 : decode cJ6_stringSize_0f7a4 3 = .ok (.ifCond .lt 8, 3) := by decide +kernel
theorem dJ6_stringSize_0f7a4_6 : decode cJ6_stringSize_0f7a4 6 = .ok (.iconst 0, 1) := by decide +kernel
theorem dJ6_stringSize_0f7a4_7 : decode cJ6_stringSize_0f7a4 7 = .ok (.istore_n 1, 1) := by decide +kernel
theorem dJ6_stringSize_0f7a4_8 : decode cJ6_stringSize_0f7a4 8 = .ok (.iload_n 0, 1) := by decide +kernel
theorem dJ6_stringSize_0f7a4_9 : decode cJ6_stringSize_0f7a4 9 = .ok (.ineg, 1) := by decide +kernel
theorem dJ6_stringSize_0f7a4_10 : decode cJ6_stringSize_0f7a4 10 = .ok (.istore_n 0, 1) := by decide +kernel
theorem dJ6_stringSize_0f7a4_11 : decode cJ6_stringSize_0f7a4 11 = .ok (.bipush (-10), 2) := by decide +kernel
theorem dJ6_stringSize_0f7a4_13 : decode cJ6_stringSize_0f7a4 13 = .ok (.istore_n 2, 1) := by decide +kernel
theorem dJ6_stringSize_0f7a4_14 : decode cJ6_stringSize_0f7a4 14 = .ok (.iconst 1, 1) := by decide +kernel
theorem dJ6_stringSize_0f7a4_15 : decode cJ6_stringSize_0f7a4 15 = .ok (.istore_n 3, 1) := by decide +kernel
theorem dJ6_stringSize_0f7a4_16 : decode cJ6_stringSize_0f7a4 16 = .ok (.iload_n 3, 1) := by decide +kernel
theorem dJ6_stringSize_0f7a4_17 : decode cJ6_stringSize_0f7a4 17 = .ok (.bipush 10, 2) := by decide +kernel
theorem dJ6_stringSize_0f7a4_19 : decode cJ6_stringSize_0f7a4 19 = .ok (.if_icmp .ge 23, 3) := by decide +kernel
theorem dJ6_stringSize_0f7a4_22 : decode cJ6_stringSize_0f7a4 22 = .ok (.iload_n 0, 1) := by decide +kernel
theorem dJ6_stringSize_0f7a4_23 : decode cJ6_stringSize_0f7a4 23 = .ok (.iload_n 2, 1) := by decide +kernel
theorem dJ6_stringSize_0f7a4_24 : decode cJ6_stringSize_0f7a4 24 = .ok (.if_icmp .le 7, 3) := by decide +kernel
theorem dJ6_stringSize_0f7a4_27 : decode cJ6_stringSize_0f7a4 27 = .ok (.iload_n 3, 1) := by decide +kernel
theorem dJ6_stringSize_0f7a4_28 : decode cJ6_stringSize_0f7a4 28 = .ok (.iload_n 1, 1) := by decide +kernel
theorem dJ6_stringSize_0f7a4_29 : decode cJ6_stringSize_0f7a4 29 = .ok (.iadd, 1) := by decide +kernel
theorem dJ6_stringSize_0f7a4_30 : decode cJ6_stringSize_0f7a4 30 = .ok (.ireturn, 1) := by decide +kernel
theorem dJ6_stringSize_0f7a4_31 : decode cJ6_stringSize_0f7a4 31 = .ok (.bipush 10, 2) := by decide +kernel
theorem dJ6_stringSize_0f7a4_33 : decode cJ6_stringSize_0f7a4 33 = .ok (.iload_n 2, 1) := by decide +kernel
theorem dJ6_stringSize_0f7a4_34 : decode cJ6_stringSize_0f7a4 34 = .ok (.imul, 1) := by decide +kernel
theorem dJ6_stringSize_0f7a4_35 : decode cJ6_stringSize_0f7a4 35 = .ok (.istore_n 2, 1) := by decide +kernel
theorem dJ6_stringSize_0f7a4_36 : decode cJ6_stringSize_0f7a4 36 = .ok (.iinc 3 1, 3) := by decide +kernel
theorem dJ6_stringSize_0f7a4_39 : decode cJ6_stringSize_0f7a4 39 = .ok (.goto (-23), 3) := by decide +kernel
theorem dJ6_stringSize_0f7a4_42 : decode cJ6_stringSize_0f7a4 42 = .ok (.bipush 10, 2) := by decide +kernel
theorem dJ6_stringSize_0f7a4_44 : decode cJ6_stringSize_0f7a4 44 = .ok (.iload_n 1, 1) := by decide +kernel
theorem dJ6_stringSize_0f7a4_45 : decode cJ6_stringSize_0f7a4 45 = .ok (.iadd, 1) := by decide +kernel
theorem dJ6_stringSize_0f7a4_46 : decode cJ6_stringSize_0f7a4 46 = .ok (.ireturn, 1) := by decide +kernel
theorem dJ6_bitCount_0f7a4_0 : decode cJ6_bitCount_0f7a4 0 = .ok (.iload_n 0, 1) := by decide +kernel
theorem dJ6_bitCount_0f7a4_1 : decode cJ6_bitCount_0f7a4 1 = .ok (.iload_n 0, 1) := by decide +kernel
theorem dJ6_bitCount_0f7a4_2 : decode cJ6_bitCount_0f7a4 2 = .ok (.iconst 1, 1) := by decide +kernel
theorem dJ6_bitCount_0f7a4_3 : decode cJ6_bitCount_0f7a4 3 = .ok (.iushr, 1) := by decide +kernel
theorem dJ6_bitCount_0f7a4_4 : decode cJ6_bitCount_0f7a4 4 = .ok (.ldc_w 265, 3) := by decide +kernel
theorem dJ6_bitCount_0f7a4_7 : decode cJ6_bitCount_0f7a4 7 = .ok (.iand, 1) := by decide +kernel
theorem dJ6_bitCount_0f7a4_8 : decode cJ6_bitCount_0f7a4 8 = .ok (.isub, 1) := by decide +kernel
theorem dJ6_bitCount_0f7a4_9 : decode cJ6_bitCount_0f7a4 9 = .ok (.istore_n 0, 1) := by decide +kernel
theorem dJ6_bitCount_0f7a4_10 : decode cJ6_bitCount_0f7a4 10 = .ok (.iload_n 0, 1) := by decide +kernel
theorem dJ6_bitCount_0f7a4_11 : decode cJ6_bitCount_0f7a4 11 = .ok (.ldc_w 266, 3) := by decide +kernel
theorem dJ6_bitCount_0f7a4_14 : decode cJ6_bitCount_0f7a4 14 = .ok (.iand, 1) := by decide +kernel
theorem dJ6_bitCount_0f7a4_15 : decode cJ6_bitCount_0f7a4 15 = .ok (.iload_n 0, 1) := by decide +kernel
theorem dJ6_bitCount_0f7a4_16 : decode cJ6_bitCount_0f7a4 16 = .ok (.iconst 2, 1) := by decide +kernel
theorem dJ6_bitCount_0f7a4_17 : decode cJ6_bitCount_0f7a4 17 = .ok (.iushr, 1) := by decide +kernel
theorem dJ6_bitCount_0f7a4_18 : decode cJ6_bitCount_0f7a4 18 = .ok (.ldc_w 266, 3) := by decide +kernel
theorem dJ6_bitCount_0f7a4_21 : decode cJ6_bitCount_0f7a4 21 = .ok (.iand, 1) := by decide +kernel
theorem dJ6_bitCount_0f7a4_22 : decode cJ6_bitCount_0f7a4 22 = .ok (.iadd, 1) := by decide +kernel
theorem dJ6_bitCount_0f7a4_23 : decode cJ6_bitCount_0f7a4 23 = .ok (.istore_n 0, 1) := by decide +kernel
theorem dJ6_bitCount_0f7a4_24 : decode cJ6_bitCount_0f7a4 24 = .ok (.iload_n 0, 1) := by decide +kernel
theorem dJ6_bitCount_0f7a4_25 : decode cJ6_bitCount_0f7a4 25 = .ok (.iload_n 0, 1) := by decide +kernel
theorem dJ6_bitCount_0f7a4_26 : decode cJ6_bitCount_0f7a4 26 = .ok (.iconst 4, 1) := by decide +kernel
theorem dJ6_bitCount_0f7a4_27 : decode cJ6_bitCount_0f7a4 27 = .ok (.iushr, 1) := by decide +kernel
theorem dJ6_bitCount_0f7a4_28 : decode cJ6_bitCount_0f7a4 28 = .ok (.iadd, 1) := by decide +kernel
theorem dJ6_bitCount_0f7a4_29 : decode cJ6_bitCount_0f7a4 29 = .ok (.ldc_w 267, 3) := by decide +kernel
theorem dJ6_bitCount_0f7a4_32 : decode cJ6_bitCount_0f7a4 32 = .ok (.iand, 1) := by decide +kernel
theorem dJ6_bitCount_0f7a4_33 : decode cJ6_bitCount_0f7a4 33 = .ok (.istore_n 0, 1) := by decide +kernel
theorem dJ6_bitCount_0f7a4_34 : decode cJ6_bitCount_0f7a4 34 = .ok (.iload_n 0, 1) := by decide +kernel
theorem dJ6_bitCount_0f7a4_35 : decode cJ6_bitCount_0f7a4 35 = .ok (.iload_n 0, 1) := by decide +kernel
theorem dJ6_bitCount_0f7a4_36 : decode cJ6_bitCount_0f7a4 36 = .ok (.bipush 8, 2) := by decide +kernel
theorem dJ6_bitCount_0f7a4_38 : decode cJ6_bitCount_0f7a4 38 = .ok (.iushr, 1) := by decide +kernel
theorem dJ6_bitCount_0f7a4_39 : decode cJ6_bitCount_0f7a4 39 = .ok (.iadd, 1) := by decide +kernel
theorem dJ6_bitCount_0f7a4_40 : decode cJ6_bitCount_0f7a4 40 = .ok (.istore_n 0, 1) := by decide +kernel
theorem dJ6_bitCount_0f7a4_41 : decode cJ6_bitCount_0f7a4 41 = .ok (.iload_n 0, 1) := by decide +kernel
theorem dJ6_bitCount_0f7a4_42 : decode cJ6_bitCount_0f7a4 42 = .ok (.iload_n 0, 1) := by decide +kernel
theorem dJ6_bitCount_0f7a4_43 : decode cJ6_bitCount_0f7a4 43 = .ok (.bipush 16, 2) := by decide +kernel
theorem dJ6_bitCount_0f7a4_45 : decode cJ6_bitCount_0f7a4 45 = .ok (.iushr, 1) := by decide +kernel
theorem dJ6_bitCount_0f7a4_46 : decode cJ6_bitCount_0f7a4 46 = .ok (.iadd, 1) := by decide +kernel
theorem dJ6_bitCount_0f7a4_47 : decode cJ6_bitCount_0f7a4 47 = .ok (.istore_n 0, 1) := by decide +kernel
theorem dJ6_bitCount_0f7a4_48 : decode cJ6_bitCount_0f7a4 48 = .ok (.iload_n 0, 1) := by decide +kernel
theorem dJ6_bitCount_0f7a4_49 : decode cJ6_bitCount_0f7a4 49 = .ok (.bipush 63, 2) := by decide +kernel
theorem dJ6_bitCount_0f7a4_51 : decode cJ6_bitCount_0f7a4 51 = .ok (.iand, 1) := by decide +kernel
theorem dJ6_bitCount_0f7a4_52 : decode cJ6_bitCount_0f7a4 52 = .ok (.ireturn, 1) := by decide +kernel
theorem dJ9_max_7cf53_0 : decode cJ9_max_7cf53 0 = .ok (.iload_n 0, 1) := by decide +kernel
theorem dJ9_max_7cf53_1 : decode cJ9_max_7cf53 1 = .ok (.iload_n 1, 1) := by decide +kernel
theorem dJ9_max_7cf53_2 : decode cJ9_max_7cf53 2 = .ok (.if_icmp .lt 7, 3) := by decide +kernel
theorem dJ9_max_7cf53_5 : decode cJ9_max_7cf53 5 = .ok (.iload_n 0, 1) := by decide +kernel
theorem dJ9_max_7cf53_6 : decode cJ9_max_7cf53 6 = .ok (.goto 4, 3) := by decide +kernel
theorem dJ9_max_7cf53_9 : decode cJ9_max_7cf53 9 = .ok (.iload_n 1, 1) := by decide +kernel
theorem dJ9_max_7cf53_10 : decode cJ9_max_7cf53 10 = .ok (.ireturn, 1) := by decide +kernel
theorem dJ9_min_7cf53_0 : decode cJ9_min_7cf53 0 = .ok (.iload_n 0, 1) := by decide +kernel
theorem dJ9_min_7cf53_1 : decode cJ9_min_7cf53 1 = .ok (.iload_n 1, 1) := by decide +kernel
theorem dJ9_min_7cf53_2 : decode cJ9_min_7cf53 2 = .ok (.if_icmp .gt 7, 3) := by decide +kernel
theorem dJ9_min_7cf53_5 : decode cJ9_min_7cf53 5 = .ok (.iload_n 0, 1) := by decide +kernel
theorem dJ9_min_7cf53_6 : decode cJ9_min_7cf53 6 = .ok (.goto 4, 3) := by decide +kernel
theorem dJ9_min_7cf53_9 : decode cJ9_min_7cf53 9 = .ok (.iload_n 1, 1) := by decide +kernel
theorem dJ9_min_7cf53_10 : decode cJ9_min_7cf53 10 = .ok (.ireturn, 1) := by decide +kernel
theorem dJxa1e45_init_da8c8_0 : decode cJxa1e45_init_da8c8 0 = .ok (.aload_n 0, 1) := by decide +kernel
theorem dJxa1e45_init_da8c8_1 : decode cJxa1e45_init_da8c8 1 = .ok (.invokespecial 1, 3) := by decide +kernel
theorem dJxa1e45_init_da8c8_4 : decode cJxa1e45_init_da8c8 4 = .ok (.return_, 1) := by decide +kernel
theorem dJxc12de_init_da8c8_0 : decode cJxc12de_init_da8c8 0 = .ok (.aload_n 0, 1) := by decide +kernel
theorem dJxc12de_init_da8c8_1 : decode cJxc12de_init_da8c8 1 = .ok (.invokespecial 1, 3) := by decide +kernel
theorem dJxc12de_init_da8c8_4 : decode cJxc12de_init_da8c8 4 = .ok (.aload_n 0, 1) := by decide +kernel
theorem dJxc12de_init_da8c8_5 : decode cJxc12de_init_da8c8 5 = .ok (.iconst 0, 1) := by decide +kernel
theorem dJxc12de_init_da8c8_6 : decode cJxc12de_init_da8c8 6 = .ok (.putfield 7, 3) := by decide +kernel
theorem dJxc12de_init_da8c8_9 : decode cJxc12de_init_da8c8 9 = .ok (.return_, 1) := by decide +kernel
theorem dJx4a65c_init_da8c8_0 : decode cJx4a65c_init_da8c8 0 = .ok (.aload_n 0, 1) := by decide +kernel
theorem dJx4a65c_init_da8c8_1 : decode cJx4a65c_init_da8c8 1 = .ok (.invokespecial 1, 3) := by decide +kernel
theorem dJx4a65c_init_da8c8_4 : decode cJx4a65c_init_da8c8 4 = .ok (.aload_n 0, 1) := by decide +kernel
theorem dJx4a65c_init_da8c8_5 : decode cJx4a65c_init_da8c8 5 = .ok (.getstatic 39, 3) := by decide +kernel
theorem dJx4a65c_init_da8c8_8 : decode cJx4a65c_init_da8c8 8 = .ok (.putfield 9, 3) := by decide +kernel
theorem dJx4a65c_init_da8c8_11 : decode cJx4a65c_init_da8c8 11 = .ok (.return_, 1) := by decide +kernel
theorem dJx4a65c_grow_92f84_0 : decode cJx4a65c_grow_92f84 0 = .ok (.aload_n 0, 1) := by decide +kernel
theorem dJx4a65c_grow_92f84_1 : decode cJx4a65c_grow_92f84 1 = .ok (.getfield 9, 3) := by decide +kernel
theorem dJx4a65c_grow_92f84_4 : decode cJx4a65c_grow_92f84 4 = .ok (.arraylength, 1) := by decide +kernel
theorem dJx4a65c_grow_92f84_5 : decode cJx4a65c_grow_92f84 5 = .ok (.istore_n 2, 1) := by decide +kernel
theorem dJx4a65c_grow_92f84_6 : decode cJx4a65c_grow_92f84 6 = .ok (.iload_n 2, 1) := by decide +kernel
theorem dJx4a65c_grow_92f84_7 : decode cJx4a65c_grow_92f84 7 = .ok (.ifCond .gt 13, 3) := by decide +kernel
theorem dJx4a65c_grow_92f84_10 : decode cJx4a65c_grow_92f84 10 = .ok (.aload_n 0, 1) := by decide +kernel
theorem dJx4a65c_grow_92f84_11 : decode cJx4a65c_grow_92f84 11 = .ok (.getfield 9, 3) := by decide +kernel
theorem dJx4a65c_grow_92f84_14 : decode cJx4a65c_grow_92f84 14 = .ok (.getstatic 39, 3) := by decide +kernel
theorem dJx4a65c_grow_92f84_17 : decode cJx4a65c_grow_92f84 17 = .ok (.if_acmp .eq 28, 3) := by decide +kernel
theorem dJx4a65c_grow_92f84_20 : decode cJx4a65c_grow_92f84 20 = .ok (.iload_n 2, 1) := by decide +kernel
theorem dJx4a65c_grow_92f84_21 : decode cJx4a65c_grow_92f84 21 = .ok (.iload_n 1, 1) := by decide +kernel
theorem dJx4a65c_grow_92f84_22 : decode cJx4a65c_grow_92f84 22 = .ok (.iload_n 2, 1) := by decide +kernel
theorem dJx4a65c_grow_92f84_23 : decode cJx4a65c_grow_92f84 23 = .ok (.isub, 1) := by decide +kernel
theorem dJx4a65c_grow_92f84_24 : decode cJx4a65c_grow_92f84 24 = .ok (.iload_n 2, 1) := by decide +kernel
theorem dJx4a65c_grow_92f84_25 : decode cJx4a65c_grow_92f84 25 = .ok (.iconst 1, 1) := by decide +kernel
theorem dJx4a65c_grow_92f84_26 : decode cJx4a65c_grow_92f84 26 = .ok (.ishr, 1) := by decide +kernel
theorem dJx4a65c_grow_92f84_27 : decode cJx4a65c_grow_92f84 27 = .ok (.invokestatic 73, 3) := by decide +kernel
theorem dJx4a65c_grow_92f84_30 : decode cJx4a65c_grow_92f84 30 = .ok (.istore_n 3, 1) := by decide +kernel
theorem dJx4a65c_grow_92f84_31 : decode cJx4a65c_grow_92f84 31 = .ok (.aload_n 0, 1) := by decide +kernel
theorem dJx4a65c_grow_92f84_32 : decode cJx4a65c_grow_92f84 32 = .ok (.aload_n 0, 1) := by decide +kernel
theorem dJx4a65c_grow_92f84_33 : decode cJx4a65c_grow_92f84 33 = .ok (.getfield 9, 3) := by decide +kernel
theorem dJx4a65c_grow_92f84_36 : decode cJx4a65c_grow_92f84 36 = .ok (.iload_n 3, 1) := by decide +kernel
theorem dJx4a65c_grow_92f84_37 : decode cJx4a65c_grow_92f84 37 = .ok (.invokestatic 66, 3) := by decide +kernel
theorem dJx4a65c_grow_92f84_40 : decode cJx4a65c_grow_92f84 40 = .ok (.dup_x1, 1) := by decide +kernel
theorem dJx4a65c_grow_92f84_41 : decode cJx4a65c_grow_92f84 41 = .ok (.putfield 9, 3) := by decide +kernel
theorem dJx4a65c_grow_92f84_44 : decode cJx4a65c_grow_92f84 44 = .ok (.areturn, 1) := by decide +kernel
theorem dJx4a65c_grow_92f84_45 : decode cJx4a65c_grow_92f84 45 = .ok (.aload_n 0, 1) := by decide +kernel
theorem dJx4a65c_grow_92f84_46 : decode cJx4a65c_grow_92f84 46 = .ok (.bipush 10, 2) := by decide +kernel
theorem dJx4a65c_grow_92f84_48 : decode cJx4a65c_grow_92f84 48 = .ok (.iload_n 1, 1) := by decide +kernel
theorem dJx4a65c_grow_92f84_49 : decode cJx4a65c_grow_92f84 49 = .ok (.invokestatic 79, 3) := by decide +kernel
theorem dJx4a65c_grow_92f84_52 : decode cJx4a65c_grow_92f84 52 = .ok (.anewarray 7, 3) := by decide +kernel
theorem dJx4a65c_grow_92f84_55 : decode cJx4a65c_grow_92f84 55 = .ok (.dup_x1, 1) := by decide +kernel
theorem dJx4a65c_grow_92f84_56 : decode cJx4a65c_grow_92f84 56 = .ok (.putfield 9, 3) := by decide +kernel
theorem dJx4a65c_grow_92f84_59 : decode cJx4a65c_grow_92f84 59 = .ok (.areturn, 1) := by decide +kernel
theorem dJx4a65c_grow_d5877_0 : decode cJx4a65c_grow_d5877 0 = .ok (.aload_n 0, 1) := by decide +kernel
theorem dJx4a65c_grow_d5877_1 : decode cJx4a65c_grow_d5877 1 = .ok (.aload_n 0, 1) := by decide +kernel
theorem dJx4a65c_grow_d5877_2 : decode cJx4a65c_grow_d5877 2 = .ok (.getfield 48, 3) := by decide +kernel
theorem dJx4a65c_grow_d5877_5 : decode cJx4a65c_grow_d5877 5 = .ok (.iconst 1, 1) := by decide +kernel
theorem dJx4a65c_grow_d5877_6 : decode cJx4a65c_grow_d5877 6 = .ok (.iadd, 1) := by decide +kernel
theorem dJx4a65c_grow_d5877_7 : decode cJx4a65c_grow_d5877 7 = .ok (.invokevirtual 69, 3) := by decide +kernel
theorem dJx4a65c_grow_d5877_10 : decode cJx4a65c_grow_d5877 10 = .ok (.areturn, 1) := by decide +kernel
theorem dJx4a65c_size_8abf5_0 : decode cJx4a65c_size_8abf5 0 = .ok (.aload_n 0, 1) := by decide +kernel
theorem dJx4a65c_size_8abf5_1 : decode cJx4a65c_size_8abf5 1 = .ok (.getfield 48, 3) := by decide +kernel
theorem dJx4a65c_size_8abf5_4 : decode cJx4a65c_size_8abf5 4 = .ok (.ireturn, 1) := by decide +kernel
theorem dJx4a65c_isEmpty_aae02_0 : decode cJx4a65c_isEmpty_aae02 0 = .ok (.aload_n 0, 1) := by decide +kernel
theorem dJx4a65c_isEmpty_aae02_1 : decode cJx4a65c_isEmpty_aae02 1 = .ok (.getfield 48, 3) := by decide +kernel
theorem dJx4a65c_isEmpty_aae02_4 : decode cJx4a65c_isEmpty_aae02 4 = .ok (.ifCond .ne 7, 3) := by decide +kernel
theorem dJx4a65c_isEmpty_aae02_7 : decode cJx4a65c_isEmpty_aae02 7 = .ok (.iconst 1, 1) := by decide +kernel
theorem dJx4a65c_isEmpty_aae02_8 : decode cJx4a65c_isEmpty_aae02 8 = .ok (.goto 4, 3) := by decide +kernel
theorem dJx4a65c_isEmpty_aae02_11 : decode cJx4a65c_isEmpty_aae02 11 = .ok (.iconst 0, 1) := by decide +kernel
theorem dJx4a65c_isEmpty_aae02_12 : decode cJx4a65c_isEmpty_aae02 12 = .ok (.ireturn, 1) := by decide +kernel
theorem dJx4a65c_elementData_915e3_0 : decode cJx4a65c_elementData_915e3 0 = .ok (.aload_n 0, 1) := by decide +kernel
theorem dJx4a65c_elementData_915e3_1 : decode cJx4a65c_elementData_915e3 1 = .ok (.getfield 9, 3) := by decide +kernel
theorem dJx4a65c_elementData_915e3_4 : decode cJx4a65c_elementData_915e3 4 = .ok (.iload_n 1, 1) := by decide +kernel
theorem dJx4a65c_elementData_915e3_5 : decode cJx4a65c_elementData_915e3 5 = .ok (.aaload, 1) := by decide +kernel
theorem dJx4a65c_elementData_915e3_6 : decode cJx4a65c_elementData_915e3 6 = .ok (.areturn, 1) := by decide +kernel
theorem dJx4a65c_get_915e3_0 : decode cJx4a65c_get_915e3 0 = .ok (.iload_n 1, 1) := by decide +kernel
theorem dJx4a65c_get_915e3_1 : decode cJx4a65c_get_915e3 1 = .ok (.aload_n 0, 1) := by decide +kernel
theorem dJx4a65c_get_915e3_2 : decode cJx4a65c_get_915e3 2 = .ok (.getfield 48, 3) := by decide +kernel
theorem dJx4a65c_get_915e3_5 : decode cJx4a65c_get_915e3 5 = .ok (.invokestatic 118, 3) := by decide +kernel
theorem dJx4a65c_get_915e3_8 : decode cJx4a65c_get_915e3 8 = .ok (.pop, 1) := by decide +kernel
theorem dJx4a65c_get_915e3_9 : decode cJx4a65c_get_915e3 9 = .ok (.aload_n 0, 1) := by decide +kernel
theorem dJx4a65c_get_915e3_10 : decode cJx4a65c_get_915e3 10 = .ok (.iload_n 1, 1) := by decide +kernel
theorem dJx4a65c_get_915e3_11 : decode cJx4a65c_get_915e3 11 = .ok (.invokevirtual 123, 3) := by decide +kernel
theorem dJx4a65c_get_915e3_14 : decode cJx4a65c_get_915e3 14 = .ok (.areturn, 1) := by decide +kernel
theorem dJx4a65c_add_72be8_0 : decode cJx4a65c_add_72be8 0 = .ok (.iload_n 3, 1) := by decide +kernel
theorem dJx4a65c_add_72be8_1 : decode cJx4a65c_add_72be8 1 = .ok (.aload_n 2, 1) := by decide +kernel
theorem dJx4a65c_add_72be8_2 : decode cJx4a65c_add_72be8 2 = .ok (.arraylength, 1) := by decide +kernel
theorem dJx4a65c_add_72be8_3 : decode cJx4a65c_add_72be8 3 = .ok (.if_icmp .ne 8, 3) := by decide +kernel
theorem dJx4a65c_add_72be8_6 : decode cJx4a65c_add_72be8 6 = .ok (.aload_n 0, 1) := by decide +kernel
theorem dJx4a65c_add_72be8_7 : decode cJx4a65c_add_72be8 7 = .ok (.invokevirtual 129, 3) := by decide +kernel
theorem dJx4a65c_add_72be8_10 : decode cJx4a65c_add_72be8 10 = .ok (.astore_n 2, 1) := by decide +kernel
theorem dJx4a65c_add_72be8_11 : decode cJx4a65c_add_72be8 11 = .ok (.aload_n 2, 1) := by decide +kernel
theorem dJx4a65c_add_72be8_12 : decode cJx4a65c_add_72be8 12 = .ok (.iload_n 3, 1) := by decide +kernel
theorem dJx4a65c_add_72be8_13 : decode cJx4a65c_add_72be8 13 = .ok (.aload_n 1, 1) := by decide +kernel
theorem dJx4a65c_add_72be8_14 : decode cJx4a65c_add_72be8 14 = .ok (.aastore, 1) := by decide +kernel
theorem dJx4a65c_add_72be8_15 : decode cJx4a65c_add_72be8 15 = .ok (.aload_n 0, 1) := by decide +kernel
theorem dJx4a65c_add_72be8_16 : decode cJx4a65c_add_72be8 16 = .ok (.iload_n 3, 1) := by decide +kernel
theorem dJx4a65c_add_72be8_17 : decode cJx4a65c_add_72be8 17 = .ok (.iconst 1, 1) := by decide +kernel
theorem dJx4a65c_add_72be8_18 : decode cJx4a65c_add_72be8 18 = .ok (.iadd, 1) := by decide +kernel
theorem dJx4a65c_add_72be8_19 : decode cJx4a65c_add_72be8 19 = .ok (.putfield 48, 3) := by decide +kernel
theorem dJx4a65c_add_72be8_22 : decode cJx4a65c_add_72be8 22 = .ok (.return_, 1) := by decide +kernel
theorem dJx4a65c_add_9ea2d_0 : decode cJx4a65c_add_9ea2d 0 = .ok (.aload_n 0, 1) := by decide +kernel
theorem dJx4a65c_add_9ea2d_1 : decode cJx4a65c_add_9ea2d 1 = .ok (.dup, 1) := by decide +kernel
theorem dJx4a65c_add_9ea2d_2 : decode cJx4a65c_add_9ea2d 2 = .ok (.getfield 63, 3) := by decide +kernel
theorem dJx4a65c_add_9ea2d_5 : decode cJx4a65c_add_9ea2d 5 = .ok (.iconst 1, 1) := by decide +kernel
theorem dJx4a65c_add_9ea2d_6 : decode cJx4a65c_add_9ea2d 6 = .ok (.iadd, 1) := by decide +kernel
theorem dJx4a65c_add_9ea2d_7 : decode cJx4a65c_add_9ea2d 7 = .ok (.putfield 63, 3) := by decide +kernel
theorem dJx4a65c_add_9ea2d_10 : decode cJx4a65c_add_9ea2d 10 = .ok (.aload_n 0, 1) := by decide +kernel
theorem dJx4a65c_add_9ea2d_11 : decode cJx4a65c_add_9ea2d 11 = .ok (.aload_n 1, 1) := by decide +kernel
theorem dJx4a65c_add_9ea2d_12 : decode cJx4a65c_add_9ea2d 12 = .ok (.aload_n 0, 1) := by decide +kernel
theorem dJx4a65c_add_9ea2d_13 : decode cJx4a65c_add_9ea2d 13 = .ok (.getfield 9, 3) := by decide +kernel
theorem dJx4a65c_add_9ea2d_16 : decode cJx4a65c_add_9ea2d 16 = .ok (.aload_n 0, 1) := by decide +kernel
theorem dJx4a65c_add_9ea2d_17 : decode cJx4a65c_add_9ea2d 17 = .ok (.getfield 48, 3) := by decide +kernel
theorem dJx4a65c_add_9ea2d_20 : decode cJx4a65c_add_9ea2d 20 = .ok (.invokevirtual 131, 3) := by decide +kernel
theorem dJx4a65c_add_9ea2d_23 : decode cJx4a65c_add_9ea2d 23 = .ok (.iconst 1, 1) := by decide +kernel
theorem dJx4a65c_add_9ea2d_24 : decode cJx4a65c_add_9ea2d 24 = .ok (.ireturn, 1) := by decide +kernel
theorem dJx4a65c_add_7a177_0 : decode cJx4a65c_add_7a177 0 = .ok (.aload_n 0, 1) := by decide +kernel
theorem dJx4a65c_add_7a177_1 : decode cJx4a65c_add_7a177 1 = .ok (.iload_n 1, 1) := by decide +kernel
theorem dJx4a65c_add_7a177_2 : decode cJx4a65c_add_7a177 2 = .ok (.invokevirtual 135, 3) := by decide +kernel
theorem dJx4a65c_add_7a177_5 : decode cJx4a65c_add_7a177 5 = .ok (.aload_n 0, 1) := by decide +kernel
theorem dJx4a65c_add_7a177_6 : decode cJx4a65c_add_7a177 6 = .ok (.dup, 1) := by decide +kernel
theorem dJx4a65c_add_7a177_7 : decode cJx4a65c_add_7a177 7 = .ok (.getfield 63, 3) := by decide +kernel
theorem dJx4a65c_add_7a177_10 : decode cJx4a65c_add_7a177 10 = .ok (.iconst 1, 1) := by decide +kernel
theorem dJx4a65c_add_7a177_11 : decode cJx4a65c_add_7a177 11 = .ok (.iadd, 1) := by decide +kernel
theorem dJx4a65c_add_7a177_12 : decode cJx4a65c_add_7a177 12 = .ok (.putfield 63, 3) := by decide +kernel
theorem dJx4a65c_add_7a177_15 : decode cJx4a65c_add_7a177 15 = .ok (.aload_n 0, 1) := by decide +kernel
theorem dJx4a65c_add_7a177_16 : decode cJx4a65c_add_7a177 16 = .ok (.getfield 48, 3) := by decide +kernel
theorem dJx4a65c_add_7a177_19 : decode cJx4a65c_add_7a177 19 = .ok (.dup, 1) := by decide +kernel
theorem dJx4a65c_add_7a177_20 : decode cJx4a65c_add_7a177 20 = .ok (.istore_n 3, 1) := by decide +kernel
theorem dJx4a65c_add_7a177_21 : decode cJx4a65c_add_7a177 21 = .ok (.aload_n 0, 1) := by decide +kernel
theorem dJx4a65c_add_7a177_22 : decode cJx4a65c_add_7a177 22 = .ok (.getfield 9, 3) := by decide +kernel
theorem dJx4a65c_add_7a177_25 : decode cJx4a65c_add_7a177 25 = .ok (.dup, 1) := by decide +kernel
theorem dJx4a65c_add_7a177_26 : decode cJx4a65c_add_7a177 26 = .ok (.astore 4, 2) := by decide +kernel
theorem dJx4a65c_add_7a177_28 : decode cJx4a65c_add_7a177 28 = .ok (.arraylength, 1) := by decide +kernel
theorem dJx4a65c_add_7a177_29 : decode cJx4a65c_add_7a177 29 = .ok (.if_icmp .ne 9, 3) := by decide +kernel
theorem dJx4a65c_add_7a177_32 : decode cJx4a65c_add_7a177 32 = .ok (.aload_n 0, 1) := by decide +kernel
theorem dJx4a65c_add_7a177_33 : decode cJx4a65c_add_7a177 33 = .ok (.invokevirtual 129, 3) := by decide +kernel
theorem dJx4a65c_add_7a177_36 : decode cJx4a65c_add_7a177 36 = .ok (.astore 4, 2) := by decide +kernel
theorem dJx4a65c_add_7a177_38 : decode cJx4a65c_add_7a177 38 = .ok (.aload 4, 2) := by decide +kernel
theorem dJx4a65c_add_7a177_40 : decode cJx4a65c_add_7a177 40 = .ok (.iload_n 1, 1) := by decide +kernel
theorem dJx4a65c_add_7a177_41 : decode cJx4a65c_add_7a177 41 = .ok (.aload 4, 2) := by decide +kernel
theorem dJx4a65c_add_7a177_43 : decode cJx4a65c_add_7a177 43 = .ok (.iload_n 1, 1) := by decide +kernel
theorem dJx4a65c_add_7a177_44 : decode cJx4a65c_add_7a177 44 = .ok (.iconst 1, 1) := by decide +kernel
theorem dJx4a65c_add_7a177_45 : decode cJx4a65c_add_7a177 45 = .ok (.iadd, 1) := by decide +kernel
theorem dJx4a65c_add_7a177_46 : decode cJx4a65c_add_7a177 46 = .ok (.iload_n 3, 1) := by decide +kernel
theorem dJx4a65c_add_7a177_47 : decode cJx4a65c_add_7a177 47 = .ok (.iload_n 1, 1) := by decide +kernel
theorem dJx4a65c_add_7a177_48 : decode cJx4a65c_add_7a177 48 = .ok (.isub, 1) := by decide +kernel
theorem dJx4a65c_add_7a177_49 : decode cJx4a65c_add_7a177 49 = .ok (.invokestatic 112, 3) := by decide +kernel
theorem dJx4a65c_add_7a177_52 : decode cJx4a65c_add_7a177 52 = .ok (.aload 4, 2) := by decide +kernel
theorem dJx4a65c_add_7a177_54 : decode cJx4a65c_add_7a177 54 = .ok (.iload_n 1, 1) := by decide +kernel
theorem dJx4a65c_add_7a177_55 : decode cJx4a65c_add_7a177 55 = .ok (.aload_n 2, 1) := by decide +kernel
theorem dJx4a65c_add_7a177_56 : decode cJx4a65c_add_7a177 56 = .ok (.aastore, 1) := by decide +kernel
theorem dJx4a65c_add_7a177_57 : decode cJx4a65c_add_7a177 57 = .ok (.aload_n 0, 1) := by decide +kernel
theorem dJx4a65c_add_7a177_58 : decode cJx4a65c_add_7a177 58 = .ok (.iload_n 3, 1) := by decide +kernel
theorem dJx4a65c_add_7a177_59 : decode cJx4a65c_add_7a177 59 = .ok (.iconst 1, 1) := by decide +kernel
theorem dJx4a65c_add_7a177_60 : decode cJx4a65c_add_7a177 60 = .ok (.iadd, 1) := by decide +kernel
theorem dJx4a65c_add_7a177_61 : decode cJx4a65c_add_7a177 61 = .ok (.putfield 48, 3) := by decide +kernel
theorem dJx4a65c_add_7a177_64 : decode cJx4a65c_add_7a177 64 = .ok (.return_, 1) := by decide +kernel
theorem dJx4a65c_remove_915e3_0 : decode cJx4a65c_remove_915e3 0 = .ok (.iload_n 1, 1) := by decide +kernel
theorem dJx4a65c_remove_915e3_1 : decode cJx4a65c_remove_915e3 1 = .ok (.aload_n 0, 1) := by decide +kernel
theorem dJx4a65c_remove_915e3_2 : decode cJx4a65c_remove_915e3 2 = .ok (.getfield 48, 3) := by decide +kernel
theorem dJx4a65c_remove_915e3_5 : decode cJx4a65c_remove_915e3 5 = .ok (.invokestatic 118, 3) := by decide +kernel
theorem dJx4a65c_remove_915e3_8 : decode cJx4a65c_remove_915e3 8 = .ok (.pop, 1) := by decide +kernel
theorem dJx4a65c_remove_915e3_9 : decode cJx4a65c_remove_915e3 9 = .ok (.aload_n 0, 1) := by decide +kernel
theorem dJx4a65c_remove_915e3_10 : decode cJx4a65c_remove_915e3 10 = .ok (.getfield 9, 3) := by decide +kernel
theorem dJx4a65c_remove_915e3_13 : decode cJx4a65c_remove_915e3 13 = .ok (.astore_n 2, 1) := by decide +kernel
theorem dJx4a65c_remove_915e3_14 : decode cJx4a65c_remove_915e3 14 = .ok (.aload_n 2, 1) := by decide +kernel
theorem dJx4a65c_remove_915e3_15 : decode cJx4a65c_remove_915e3 15 = .ok (.iload_n 1, 1) := by decide +kernel
theorem dJx4a65c_remove_915e3_16 : decode cJx4a65c_remove_915e3 16 = .ok (.aaload, 1) := by decide +kernel
theorem dJx4a65c_remove_915e3_17 : decode cJx4a65c_remove_915e3 17 = .ok (.astore_n 3, 1) := by decide +kernel
theorem dJx4a65c_remove_915e3_18 : decode cJx4a65c_remove_915e3 18 = .ok (.aload_n 0, 1) := by decide +kernel
theorem dJx4a65c_remove_915e3_19 : decode cJx4a65c_remove_915e3 19 = .ok (.aload_n 2, 1) := by decide +kernel
theorem dJx4a65c_remove_915e3_20 : decode cJx4a65c_remove_915e3 20 = .ok (.iload_n 1, 1) := by decide +kernel
theorem dJx4a65c_remove_915e3_21 : decode cJx4a65c_remove_915e3 21 = .ok (.invokevirtual 144, 3) := by decide +kernel
theorem dJx4a65c_remove_915e3_24 : decode cJx4a65c_remove_915e3 24 = .ok (.aload_n 3, 1) := by decide +kernel
theorem dJx4a65c_remove_915e3_25 : decode cJx4a65c_remove_915e3 25 = .ok (.areturn, 1) := by decide +kernel
theorem dJx4a65c_fastRemove_b59b0_0 : decode cJx4a65c_fastRemove_b59b0 0 = .ok (.aload_n 0, 1) := by decide +kernel
theorem dJx4a65c_fastRemove_b59b0_1 : decode cJx4a65c_fastRemove_b59b0 1 = .ok (.dup, 1) := by decide +kernel
theorem dJx4a65c_fastRemove_b59b0_2 : decode cJx4a65c_fastRemove_b59b0 2 = .ok (.getfield 63, 3) := by decide +kernel
theorem dJx4a65c_fastRemove_b59b0_5 : decode cJx4a65c_fastRemove_b59b0 5 = .ok (.iconst 1, 1) := by decide +kernel
theorem dJx4a65c_fastRemove_b59b0_6 : decode cJx4a65c_fastRemove_b59b0 6 = .ok (.iadd, 1) := by decide +kernel
theorem dJx4a65c_fastRemove_b59b0_7 : decode cJx4a65c_fastRemove_b59b0 7 = .ok (.putfield 63, 3) := by decide +kernel
theorem dJx4a65c_fastRemove_b59b0_10 : decode cJx4a65c_fastRemove_b59b0 10 = .ok (.aload_n 0, 1) := by decide +kernel
theorem dJx4a65c_fastRemove_b59b0_11 : decode cJx4a65c_fastRemove_b59b0 11 = .ok (.getfield 48, 3) := by decide +kernel
theorem dJx4a65c_fastRemove_b59b0_14 : decode cJx4a65c_fastRemove_b59b0 14 = .ok (.iconst 1, 1) := by decide +kernel
theorem dJx4a65c_fastRemove_b59b0_15 : decode cJx4a65c_fastRemove_b59b0 15 = .ok (.isub, 1) := by decide +kernel
theorem dJx4a65c_fastRemove_b59b0_16 : decode cJx4a65c_fastRemove_b59b0 16 = .ok (.dup, 1) := by decide +kernel
theorem dJx4a65c_fastRemove_b59b0_17 : decode cJx4a65c_fastRemove_b59b0 17 = .ok (.istore_n 3, 1) := by decide +kernel
theorem dJx4a65c_fastRemove_b59b0_18 : decode cJx4a65c_fastRemove_b59b0 18 = .ok (.iload_n 2, 1) := by decide +kernel
theorem dJx4a65c_fastRemove_b59b0_19 : decode cJx4a65c_fastRemove_b59b0 19 = .ok (.if_icmp .le 15, 3) := by decide +kernel
theorem dJx4a65c_fastRemove_b59b0_22 : decode cJx4a65c_fastRemove_b59b0 22 = .ok (.aload_n 1, 1) := by decide +kernel
theorem dJx4a65c_fastRemove_b59b0_23 : decode cJx4a65c_fastRemove_b59b0 23 = .ok (.iload_n 2, 1) := by decide +kernel
theorem dJx4a65c_fastRemove_b59b0_24 : decode cJx4a65c_fastRemove_b59b0 24 = .ok (.iconst 1, 1) := by decide +kernel
theorem dJx4a65c_fastRemove_b59b0_25 : decode cJx4a65c_fastRemove_b59b0 25 = .ok (.iadd, 1) := by decide +kernel
theorem dJx4a65c_fastRemove_b59b0_26 : decode cJx4a65c_fastRemove_b59b0 26 = .ok (.aload_n 1, 1) := by decide +kernel
theorem dJx4a65c_fastRemove_b59b0_27 : decode cJx4a65c_fastRemove_b59b0 27 = .ok (.iload_n 2, 1) := by decide +kernel
theorem dJx4a65c_fastRemove_b59b0_28 : decode cJx4a65c_fastRemove_b59b0 28 = .ok (.iload_n 3, 1) := by decide +kernel
theorem dJx4a65c_fastRemove_b59b0_29 : decode cJx4a65c_fastRemove_b59b0 29 = .ok (.iload_n 2, 1) := by decide +kernel
theorem dJx4a65c_fastRemove_b59b0_30 : decode cJx4a65c_fastRemove_b59b0 30 = .ok (.isub, 1) := by decide +kernel
theorem dJx4a65c_fastRemove_b59b0_31 : decode cJx4a65c_fastRemove_b59b0 31 = .ok (.invokestatic 112, 3) := by decide +kernel
theorem dJx4a65c_fastRemove_b59b0_34 : decode cJx4a65c_fastRemove_b59b0 34 = .ok (.aload_n 1, 1) := by decide +kernel
theorem dJx4a65c_fastRemove_b59b0_35 : decode cJx4a65c_fastRemove_b59b0 35 = .ok (.aload_n 0, 1) := by decide +kernel
theorem dJx4a65c_fastRemove_b59b0_36 : decode cJx4a65c_fastRemove_b59b0 36 = .ok (.iload_n 3, 1) := by decide +kernel
theorem dJx4a65c_fastRemove_b59b0_37 : decode cJx4a65c_fastRemove_b59b0 37 = .ok (.dup_x1, 1) := by decide +kernel
theorem dJx4a65c_fastRemove_b59b0_38 : decode cJx4a65c_fastRemove_b59b0 38 = .ok (.putfield 48, 3) := by decide +kernel
theorem dJx4a65c_fastRemove_b59b0_41 : decode cJx4a65c_fastRemove_b59b0 41 = .ok (.aconst_null, 1) := by decide +kernel
theorem dJx4a65c_fastRemove_b59b0_42 : decode cJx4a65c_fastRemove_b59b0 42 = .ok (.aastore, 1) := by decide +kernel
theorem dJx4a65c_fastRemove_b59b0_43 : decode cJx4a65c_fastRemove_b59b0 43 = .ok (.return_, 1) := by decide +kernel
theorem dJx4a65c_clear_da8c8_0 : decode cJx4a65c_clear_da8c8 0 = .ok (.aload_n 0, 1) := by decide +kernel
theorem dJx4a65c_clear_da8c8_1 : decode cJx4a65c_clear_da8c8 1 = .ok (.dup, 1) := by decide +kernel
theorem dJx4a65c_clear_da8c8_2 : decode cJx4a65c_clear_da8c8 2 = .ok (.getfield 63, 3) := by decide +kernel
theorem dJx4a65c_clear_da8c8_5 : decode cJx4a65c_clear_da8c8 5 = .ok (.iconst 1, 1) := by decide +kernel
theorem dJx4a65c_clear_da8c8_6 : decode cJx4a65c_clear_da8c8 6 = .ok (.iadd, 1) := by decide +kernel
theorem dJx4a65c_clear_da8c8_7 : decode cJx4a65c_clear_da8c8 7 = .ok (.putfield 63, 3) := by decide +kernel
theorem dJx4a65c_clear_da8c8_10 : decode cJx4a65c_clear_da8c8 10 = .ok (.aload_n 0, 1) := by decide +kernel
theorem dJx4a65c_clear_da8c8_11 : decode cJx4a65c_clear_da8c8 11 = .ok (.getfield 9, 3) := by decide +kernel
theorem dJx4a65c_clear_da8c8_14 : decode cJx4a65c_clear_da8c8 14 = .ok (.astore_n 1, 1) := by decide +kernel
theorem dJx4a65c_clear_da8c8_15 : decode cJx4a65c_clear_da8c8 15 = .ok (.aload_n 0, 1) := by decide +kernel
theorem dJx4a65c_clear_da8c8_16 : decode cJx4a65c_clear_da8c8 16 = .ok (.getfield 48, 3) := by decide +kernel
theorem dJx4a65c_clear_da8c8_19 : decode cJx4a65c_clear_da8c8 19 = .ok (.istore_n 2, 1) := by decide +kernel
theorem dJx4a65c_clear_da8c8_20 : decode cJx4a65c_clear_da8c8 20 = .ok (.aload_n 0, 1) := by decide +kernel
theorem dJx4a65c_clear_da8c8_21 : decode cJx4a65c_clear_da8c8 21 = .ok (.iconst 0, 1) := by decide +kernel
theorem dJx4a65c_clear_da8c8_22 : decode cJx4a65c_clear_da8c8 22 = .ok (.dup_x1, 1) := by decide +kernel
theorem dJx4a65c_clear_da8c8_23 : decode cJx4a65c_clear_da8c8 23 = .ok (.putfield 48, 3) := by decide +kernel
theorem dJx4a65c_clear_da8c8_26 : decode cJx4a65c_clear_da8c8 26 = .ok (.istore_n 3, 1) := by decide +kernel
theorem dJx4a65c_clear_da8c8_27 : decode cJx4a65c_clear_da8c8 27 = .ok (.iload_n 3, 1) := by decide +kernel
theorem dJx4a65c_clear_da8c8_28 : decode cJx4a65c_clear_da8c8 28 = .ok (.iload_n 2, 1) := by decide +kernel
theorem dJx4a65c_clear_da8c8_29 : decode cJx4a65c_clear_da8c8 29 = .ok (.if_icmp .ge 13, 3) := by decide +kernel
theorem dJx4a65c_clear_da8c8_32 : decode cJx4a65c_clear_da8c8 32 = .ok (.aload_n 1, 1) := by decide +kernel
theorem dJx4a65c_clear_da8c8_33 : decode cJx4a65c_clear_da8c8 33 = .ok (.iload_n 3, 1) := by decide +kernel
theorem dJx4a65c_clear_da8c8_34 : decode cJx4a65c_clear_da8c8 34 = .ok (.aconst_null, 1) := by decide +kernel
theorem dJx4a65c_clear_da8c8_35 : decode cJx4a65c_clear_da8c8 35 = .ok (.aastore, 1) := by decide +kernel
theorem dJx4a65c_clear_da8c8_36 : decode cJx4a65c_clear_da8c8 36 = .ok (.iinc 3 1, 3) := by decide +kernel
theorem dJx4a65c_clear_da8c8_39 : decode cJx4a65c_clear_da8c8 39 = .ok (.goto (-12), 3) := by decide +kernel
theorem dJx4a65c_clear_da8c8_42 : decode cJx4a65c_clear_da8c8 42 = .ok (.return_, 1) := by decide +kernel
theorem dJx4a65c_rangeCheckForAdd_d00df_0 : decode cJx4a65c_rangeCheckForAdd_d00df 0 = .ok (.iload_n 1, 1) := by decide +kernel
theorem dJx4a65c_rangeCheckForAdd_d00df_1 : decode cJx4a65c_rangeCheckForAdd_d00df 1 = .ok (.aload_n 0, 1) := by decide +kernel
theorem dJx4a65c_rangeCheckForAdd_d00df_2 : decode cJx4a65c_rangeCheckForAdd_d00df 2 = .ok (.getfield 48, 3) := by decide +kernel
theorem dJx4a65c_rangeCheckForAdd_d00df_5 : decode cJx4a65c_rangeCheckForAdd_d00df 5 = .ok (.if_icmp .gt 7, 3) := by decide +kernel
theorem dJx4a65c_rangeCheckForAdd_d00df_8 : decode cJx4a65c_rangeCheckForAdd_d00df 8 = .ok (.iload_n 1, 1) := by decide +kernel
theorem dJx4a65c_rangeCheckForAdd_d00df_9 : decode cJx4a65c_rangeCheckForAdd_d00df 9 = .ok (.ifCond .ge 16, 3) := by decide +kernel
theorem dJx4a65c_rangeCheckForAdd_d00df_12 : decode cJx4a65c_rangeCheckForAdd_d00df 12 = .ok (.new 187, 3) := by decide +kernel
theorem dJx4a65c_rangeCheckForAdd_d00df_15 : decode cJx4a65c_rangeCheckForAdd_d00df 15 = .ok (.dup, 1) := by decide +kernel
theorem dJx4a65c_rangeCheckForAdd_d00df_16 : decode cJx4a65c_rangeCheckForAdd_d00df 16 = .ok (.aload_n 0, 1) := by decide +kernel
theorem dJx4a65c_rangeCheckForAdd_d00df_17 : decode cJx4a65c_rangeCheckForAdd_d00df 17 = .ok (.iload_n 1, 1) := by decide +kernel
theorem dJx4a65c_rangeCheckForAdd_d00df_18 : decode cJx4a65c_rangeCheckForAdd_d00df 18 = .ok (.invokevirtual 198, 3) := by decide +kernel
theorem dJx4a65c_rangeCheckForAdd_d00df_21 : decode cJx4a65c_rangeCheckForAdd_d00df 21 = .ok (.invokespecial 193, 3) := by decide +kernel
theorem dJx4a65c_rangeCheckForAdd_d00df_24 : decode cJx4a65c_rangeCheckForAdd_d00df 24 = .ok (.athrow, 1) := by decide +kernel
theorem dJx4a65c_rangeCheckForAdd_d00df_25 : decode cJx4a65c_rangeCheckForAdd_d00df 25 = .ok (.return_, 1) := by decide +kernel
theorem dJx4a65c_outOfBoundsMsg_b52d3_0 : decode cJx4a65c_outOfBoundsMsg_b52d3 0 = .ok (.new 20, 3) := by decide +kernel
theorem dJx4a65c_outOfBoundsMsg_b52d3_3 : decode cJx4a65c_outOfBoundsMsg_b52d3 3 = .ok (.dup, 1) := by decide +kernel
theorem dJx4a65c_outOfBoundsMsg_b52d3_4 : decode cJx4a65c_outOfBoundsMsg_b52d3 4 = .ok (.invokespecial 22, 3) := by decide +kernel
theorem dJx4a65c_outOfBoundsMsg_b52d3_7 : decode cJx4a65c_outOfBoundsMsg_b52d3 7 = .ok (.ldc 201, 2) := by decide +kernel
theorem dJx4a65c_outOfBoundsMsg_b52d3_9 : decode cJx4a65c_outOfBoundsMsg_b52d3 9 = .ok (.invokevirtual 25, 3) := by decide +kernel
theorem dJx4a65c_outOfBoundsMsg_b52d3_12 : decode cJx4a65c_outOfBoundsMsg_b52d3 12 = .ok (.iload_n 1, 1) := by decide +kernel
theorem dJx4a65c_outOfBoundsMsg_b52d3_13 : decode cJx4a65c_outOfBoundsMsg_b52d3 13 = .ok (.invokevirtual 29, 3) := by decide +kernel
theorem dJx4a65c_outOfBoundsMsg_b52d3_16 : decode cJx4a65c_outOfBoundsMsg_b52d3 16 = .ok (.ldc 203, 2) := by decide +kernel
theorem dJx4a65c_outOfBoundsMsg_b52d3_18 : decode cJx4a65c_outOfBoundsMsg_b52d3 18 = .ok (.invokevirtual 25, 3) := by decide +kernel
theorem dJx4a65c_outOfBoundsMsg_b52d3_21 : decode cJx4a65c_outOfBoundsMsg_b52d3 21 = .ok (.aload_n 0, 1) := by decide +kernel
theorem dJx4a65c_outOfBoundsMsg_b52d3_22 : decode cJx4a65c_outOfBoundsMsg_b52d3 22 = .ok (.getfield 48, 3) := by decide +kernel
theorem dJx4a65c_outOfBoundsMsg_b52d3_25 : decode cJx4a65c_outOfBoundsMsg_b52d3 25 = .ok (.invokevirtual 29, 3) := by decide +kernel
theorem dJx4a65c_outOfBoundsMsg_b52d3_28 : decode cJx4a65c_outOfBoundsMsg_b52d3 28 = .ok (.invokevirtual 32, 3) := by decide +kernel
theorem dJx4a65c_outOfBoundsMsg_b52d3_31 : decode cJx4a65c_outOfBoundsMsg_b52d3 31 = .ok (.areturn, 1) := by decide +kernel
theorem dJ7_fill_53178_0 : decode cJ7_fill_53178 0 = .ok (.iconst 0, 1) := by decide +kernel
theorem dJ7_fill_53178_1 : decode cJ7_fill_53178 1 = .ok (.istore_n 2, 1) := by decide +kernel
theorem dJ7_fill_53178_2 : decode cJ7_fill_53178 2 = .ok (.aload_n 0, 1) := by decide +kernel
theorem dJ7_fill_53178_3 : decode cJ7_fill_53178 3 = .ok (.arraylength, 1) := by decide +kernel
theorem dJ7_fill_53178_4 : decode cJ7_fill_53178 4 = .ok (.istore_n 3, 1) := by decide +kernel
theorem dJ7_fill_53178_5 : decode cJ7_fill_53178 5 = .ok (.iload_n 2, 1) := by decide +kernel
theorem dJ7_fill_53178_6 : decode cJ7_fill_53178 6 = .ok (.iload_n 3, 1) := by decide +kernel
theorem dJ7_fill_53178_7 : decode cJ7_fill_53178 7 = .ok (.if_icmp .ge 13, 3) := by decide +kernel
theorem dJ7_fill_53178_10 : decode cJ7_fill_53178 10 = .ok (.aload_n 0, 1) := by decide +kernel
theorem dJ7_fill_53178_11 : decode cJ7_fill_53178 11 = .ok (.iload_n 2, 1) := by decide +kernel
theorem dJ7_fill_53178_12 : decode cJ7_fill_53178 12 = .ok (.iload_n 1, 1) := by decide +kernel
theorem dJ7_fill_53178_13 : decode cJ7_fill_53178 13 = .ok (.iastore, 1) := by decide +kernel
theorem dJ7_fill_53178_14 : decode cJ7_fill_53178 14 = .ok (.iinc 2 1, 3) := by decide +kernel
theorem dJ7_fill_53178_17 : decode cJ7_fill_53178 17 = .ok (.goto (-12), 3) := by decide +kernel
theorem dJ7_fill_53178_20 : decode cJ7_fill_53178 20 = .ok (.return_, 1) := by decide +kernel
theorem dJ7_copyOf_1904c_0 : decode cJ7_copyOf_1904c 0 = .ok (.aload_n 0, 1) := by decide +kernel
theorem dJ7_copyOf_1904c_1 : decode cJ7_copyOf_1904c 1 = .ok (.iload_n 1, 1) := by decide +kernel
theorem dJ7_copyOf_1904c_2 : decode cJ7_copyOf_1904c 2 = .ok (.aload_n 0, 1) := by decide +kernel
theorem dJ7_copyOf_1904c_3 : decode cJ7_copyOf_1904c 3 = .ok (.invokevirtual 86, 3) := by decide +kernel
theorem dJ7_copyOf_1904c_6 : decode cJ7_copyOf_1904c 6 = .ok (.invokestatic 300, 3) := by decide +kernel
theorem dJ7_copyOf_1904c_9 : decode cJ7_copyOf_1904c 9 = .ok (.areturn, 1) := by decide +kernel
theorem dJ7_copyOf_6403c_0 : decode cJ7_copyOf_6403c 0 = .ok (.aload_n 2, 1) := by decide +kernel
theorem dJ7_copyOf_6403c_1 : decode cJ7_copyOf_6403c 1 = .ok (.ldc 110, 2) := by decide +kernel
theorem dJ7_copyOf_6403c_3 : decode cJ7_copyOf_6403c 3 = .ok (.if_acmp .ne 10, 3) := by decide +kernel
theorem dJ7_copyOf_6403c_6 : decode cJ7_copyOf_6403c 6 = .ok (.iload_n 1, 1) := by decide +kernel
theorem dJ7_copyOf_6403c_7 : decode cJ7_copyOf_6403c 7 = .ok (.anewarray 2, 3) := by decide +kernel
theorem dJ7_copyOf_6403c_10 : decode cJ7_copyOf_6403c 10 = .ok (.goto 14, 3) := by decide +kernel
theorem dJ7_copyOf_6403c_13 : decode cJ7_copyOf_6403c 13 = .ok (.aload_n 2, 1) := by decide +kernel
theorem dJ7_copyOf_6403c_14 : decode cJ7_copyOf_6403c 14 = .ok (.invokevirtual 90, 3) := by decide +kernel
theorem dJ7_copyOf_6403c_17 : decode cJ7_copyOf_6403c 17 = .ok (.iload_n 1, 1) := by decide +kernel
theorem dJ7_copyOf_6403c_18 : decode cJ7_copyOf_6403c 18 = .ok (.invokestatic 95, 3) := by decide +kernel
theorem dJ7_copyOf_6403c_21 : decode cJ7_copyOf_6403c 21 = .ok (.checkcast 110, 3) := by decide +kernel
theorem dJ7_copyOf_6403c_24 : decode cJ7_copyOf_6403c 24 = .ok (.astore_n 3, 1) := by decide +kernel
theorem dJ7_copyOf_6403c_25 : decode cJ7_copyOf_6403c 25 = .ok (.aload_n 0, 1) := by decide +kernel
theorem dJ7_copyOf_6403c_26 : decode cJ7_copyOf_6403c 26 = .ok (.iconst 0, 1) := by decide +kernel
theorem dJ7_copyOf_6403c_27 : decode cJ7_copyOf_6403c 27 = .ok (.aload_n 3, 1) := by decide +kernel
theorem dJ7_copyOf_6403c_28 : decode cJ7_copyOf_6403c 28 = .ok (.iconst 0, 1) := by decide +kernel
theorem dJ7_copyOf_6403c_29 : decode cJ7_copyOf_6403c 29 = .ok (.aload_n 0, 1) := by decide +kernel
theorem dJ7_copyOf_6403c_30 : decode cJ7_copyOf_6403c 30 = .ok (.arraylength, 1) := by decide +kernel
theorem dJ7_copyOf_6403c_31 : decode cJ7_copyOf_6403c 31 = .ok (.iload_n 1, 1) := by decide +kernel
theorem dJ7_copyOf_6403c_32 : decode cJ7_copyOf_6403c 32 = .ok (.invokestatic 304, 3) := by decide +kernel
theorem dJ7_copyOf_6403c_35 : decode cJ7_copyOf_6403c 35 = .ok (.invokestatic 150, 3) := by decide +kernel
theorem dJ7_copyOf_6403c_38 : decode cJ7_copyOf_6403c 38 = .ok (.aload_n 3, 1) := by decide +kernel
theorem dJ7_copyOf_6403c_39 : decode cJ7_copyOf_6403c 39 = .ok (.areturn, 1) := by decide +kernel
theorem dJ7_copyOf_9075b_0 : decode cJ7_copyOf_9075b 0 = .ok (.iload_n 1, 1) := by decide +kernel
theorem dJ7_copyOf_9075b_1 : decode cJ7_copyOf_9075b 1 = .ok (.aload_n 0, 1) := by decide +kernel
theorem dJ7_copyOf_9075b_2 : decode cJ7_copyOf_9075b 2 = .ok (.arraylength, 1) := by decide +kernel
theorem dJ7_copyOf_9075b_3 : decode cJ7_copyOf_9075b 3 = .ok (.if_icmp .ne 11, 3) := by decide +kernel
theorem dJ7_copyOf_9075b_6 : decode cJ7_copyOf_9075b 6 = .ok (.aload_n 0, 1) := by decide +kernel
theorem dJ7_copyOf_9075b_7 : decode cJ7_copyOf_9075b 7 = .ok (.invokevirtual 310, 3) := by decide +kernel
theorem dJ7_copyOf_9075b_10 : decode cJ7_copyOf_9075b 10 = .ok (.checkcast 311, 3) := by decide +kernel
theorem dJ7_copyOf_9075b_13 : decode cJ7_copyOf_9075b 13 = .ok (.areturn, 1) := by decide +kernel
theorem dJ7_copyOf_9075b_14 : decode cJ7_copyOf_9075b 14 = .ok (.iload_n 1, 1) := by decide +kernel
theorem dJ7_copyOf_9075b_15 : decode cJ7_copyOf_9075b 15 = .ok (.newarray .byte, 2) := by decide +kernel
theorem dJ7_copyOf_9075b_17 : decode cJ7_copyOf_9075b 17 = .ok (.astore_n 2, 1) := by decide +kernel
theorem dJ7_copyOf_9075b_18 : decode cJ7_copyOf_9075b 18 = .ok (.aload_n 0, 1) := by decide +kernel
theorem dJ7_copyOf_9075b_19 : decode cJ7_copyOf_9075b 19 = .ok (.iconst 0, 1) := by decide +kernel
theorem dJ7_copyOf_9075b_20 : decode cJ7_copyOf_9075b 20 = .ok (.aload_n 2, 1) := by decide +kernel
theorem dJ7_copyOf_9075b_21 : decode cJ7_copyOf_9075b 21 = .ok (.iconst 0, 1) := by decide +kernel
theorem dJ7_copyOf_9075b_22 : decode cJ7_copyOf_9075b 22 = .ok (.aload_n 0, 1) := by decide +kernel
theorem dJ7_copyOf_9075b_23 : decode cJ7_copyOf_9075b 23 = .ok (.arraylength, 1) := by decide +kernel
theorem dJ7_copyOf_9075b_24 : decode cJ7_copyOf_9075b 24 = .ok (.iload_n 1, 1) := by decide +kernel
theorem dJ7_copyOf_9075b_25 : decode cJ7_copyOf_9075b 25 = .ok (.invokestatic 304, 3) := by decide +kernel
theorem dJ7_copyOf_9075b_28 : decode cJ7_copyOf_9075b 28 = .ok (.invokestatic 150, 3) := by decide +kernel
theorem dJ7_copyOf_9075b_31 : decode cJ7_copyOf_9075b 31 = .ok (.aload_n 2, 1) := by decide +kernel
theorem dJ7_copyOf_9075b_32 : decode cJ7_copyOf_9075b 32 = .ok (.areturn, 1) := by decide +kernel
theorem dJ7_checkLength_df160_0 : decode cJ7_checkLength_df160 0 = .ok (.iload_n 1, 1) := by decide +kernel
theorem dJ7_checkLength_df160_1 : decode cJ7_checkLength_df160 1 = .ok (.iload_n 0, 1) := by decide +kernel
theorem dJ7_checkLength_df160_2 : decode cJ7_checkLength_df160 2 = .ok (.if_icmp .ge 35, 3) := by decide +kernel
theorem dJ7_checkLength_df160_5 : decode cJ7_checkLength_df160 5 = .ok (.new 43, 3) := by decide +kernel
theorem dJ7_checkLength_df160_8 : decode cJ7_checkLength_df160 8 = .ok (.dup, 1) := by decide +kernel
theorem dJ7_checkLength_df160_9 : decode cJ7_checkLength_df160 9 = .ok (.new 45, 3) := by decide +kernel
theorem dJ7_checkLength_df160_12 : decode cJ7_checkLength_df160 12 = .ok (.dup, 1) := by decide +kernel
theorem dJ7_checkLength_df160_13 : decode cJ7_checkLength_df160 13 = .ok (.invokespecial 47, 3) := by decide +kernel
theorem dJ7_checkLength_df160_16 : decode cJ7_checkLength_df160 16 = .ok (.iload_n 0, 1) := by decide +kernel
theorem dJ7_checkLength_df160_17 : decode cJ7_checkLength_df160 17 = .ok (.invokevirtual 54, 3) := by decide +kernel
theorem dJ7_checkLength_df160_20 : decode cJ7_checkLength_df160 20 = .ok (.ldc_w 337, 3) := by decide +kernel
theorem dJ7_checkLength_df160_23 : decode cJ7_checkLength_df160 23 = .ok (.invokevirtual 50, 3) := by decide +kernel
theorem dJ7_checkLength_df160_26 : decode cJ7_checkLength_df160 26 = .ok (.iload_n 1, 1) := by decide +kernel
theorem dJ7_checkLength_df160_27 : decode cJ7_checkLength_df160 27 = .ok (.invokevirtual 54, 3) := by decide +kernel
theorem dJ7_checkLength_df160_30 : decode cJ7_checkLength_df160 30 = .ok (.invokevirtual 61, 3) := by decide +kernel
theorem dJ7_checkLength_df160_33 : decode cJ7_checkLength_df160 33 = .ok (.invokespecial 65, 3) := by decide +kernel
theorem dJ7_checkLength_df160_36 : decode cJ7_checkLength_df160 36 = .ok (.athrow, 1) := by decide +kernel
theorem dJ7_checkLength_df160_37 : decode cJ7_checkLength_df160 37 = .ok (.return_, 1) := by decide +kernel
theorem dJ7_copyOfRange_39247_0 : decode cJ7_copyOfRange_39247 0 = .ok (.iload_n 1, 1) := by decide +kernel
theorem dJ7_copyOfRange_39247_1 : decode cJ7_copyOfRange_39247 1 = .ok (.ifCond .ne 9, 3) := by decide +kernel
theorem dJ7_copyOfRange_39247_4 : decode cJ7_copyOfRange_39247 4 = .ok (.iload_n 2, 1) := by decide +kernel
theorem dJ7_copyOfRange_39247_5 : decode cJ7_copyOfRange_39247 5 = .ok (.aload_n 0, 1) := by decide +kernel
theorem dJ7_copyOfRange_39247_6 : decode cJ7_copyOfRange_39247 6 = .ok (.arraylength, 1) := by decide +kernel
theorem dJ7_copyOfRange_39247_7 : decode cJ7_copyOfRange_39247 7 = .ok (.if_icmp .eq 10, 3) := by decide +kernel
theorem dJ7_copyOfRange_39247_10 : decode cJ7_copyOfRange_39247 10 = .ok (.aload_n 0, 1) := by decide +kernel
theorem dJ7_copyOfRange_39247_11 : decode cJ7_copyOfRange_39247 11 = .ok (.iload_n 1, 1) := by decide +kernel
theorem dJ7_copyOfRange_39247_12 : decode cJ7_copyOfRange_39247 12 = .ok (.iload_n 2, 1) := by decide +kernel
theorem dJ7_copyOfRange_39247_13 : decode cJ7_copyOfRange_39247 13 = .ok (.invokestatic 339, 3) := by decide +kernel
theorem dJ7_copyOfRange_39247_16 : decode cJ7_copyOfRange_39247 16 = .ok (.areturn, 1) := by decide +kernel
theorem dJ7_copyOfRange_39247_17 : decode cJ7_copyOfRange_39247 17 = .ok (.aload_n 0, 1) := by decide +kernel
theorem dJ7_copyOfRange_39247_18 : decode cJ7_copyOfRange_39247 18 = .ok (.invokevirtual 310, 3) := by decide +kernel
theorem dJ7_copyOfRange_39247_21 : decode cJ7_copyOfRange_39247 21 = .ok (.checkcast 311, 3) := by decide +kernel
theorem dJ7_copyOfRange_39247_24 : decode cJ7_copyOfRange_39247 24 = .ok (.areturn, 1) := by decide +kernel
theorem dJ7_copyOfRangeByte_39247_0 : decode cJ7_copyOfRangeByte_39247 0 = .ok (.iload_n 1, 1) := by decide +kernel
theorem dJ7_copyOfRangeByte_39247_1 : decode cJ7_copyOfRangeByte_39247 1 = .ok (.iload_n 2, 1) := by decide +kernel
theorem dJ7_copyOfRangeByte_39247_2 : decode cJ7_copyOfRangeByte_39247 2 = .ok (.invokestatic 343, 3) := by decide +kernel
theorem dJ7_copyOfRangeByte_39247_5 : decode cJ7_copyOfRangeByte_39247 5 = .ok (.iload_n 2, 1) := by decide +kernel
theorem dJ7_copyOfRangeByte_39247_6 : decode cJ7_copyOfRangeByte_39247 6 = .ok (.iload_n 1, 1) := by decide +kernel
theorem dJ7_copyOfRangeByte_39247_7 : decode cJ7_copyOfRangeByte_39247 7 = .ok (.isub, 1) := by decide +kernel
theorem dJ7_copyOfRangeByte_39247_8 : decode cJ7_copyOfRangeByte_39247 8 = .ok (.istore_n 3, 1) := by decide +kernel
theorem dJ7_copyOfRangeByte_39247_9 : decode cJ7_copyOfRangeByte_39247 9 = .ok (.iload_n 3, 1) := by decide +kernel
theorem dJ7_copyOfRangeByte_39247_10 : decode cJ7_copyOfRangeByte_39247 10 = .ok (.newarray .byte, 2) := by decide +kernel
theorem dJ7_copyOfRangeByte_39247_12 : decode cJ7_copyOfRangeByte_39247 12 = .ok (.astore 4, 2) := by decide +kernel
theorem dJ7_copyOfRangeByte_39247_14 : decode cJ7_copyOfRangeByte_39247 14 = .ok (.aload_n 0, 1) := by decide +kernel
theorem dJ7_copyOfRangeByte_39247_15 : decode cJ7_copyOfRangeByte_39247 15 = .ok (.iload_n 1, 1) := by decide +kernel
theorem dJ7_copyOfRangeByte_39247_16 : decode cJ7_copyOfRangeByte_39247 16 = .ok (.aload 4, 2) := by decide +kernel
theorem dJ7_copyOfRangeByte_39247_18 : decode cJ7_copyOfRangeByte_39247 18 = .ok (.iconst 0, 1) := by decide +kernel
theorem dJ7_copyOfRangeByte_39247_19 : decode cJ7_copyOfRangeByte_39247 19 = .ok (.aload_n 0, 1) := by decide +kernel
theorem dJ7_copyOfRangeByte_39247_20 : decode cJ7_copyOfRangeByte_39247 20 = .ok (.arraylength, 1) := by decide +kernel
theorem dJ7_copyOfRangeByte_39247_21 : decode cJ7_copyOfRangeByte_39247 21 = .ok (.iload_n 1, 1) := by decide +kernel
theorem dJ7_copyOfRangeByte_39247_22 : decode cJ7_copyOfRangeByte_39247 22 = .ok (.isub, 1) := by decide +kernel
theorem dJ7_copyOfRangeByte_39247_23 : decode cJ7_copyOfRangeByte_39247 23 = .ok (.iload_n 3, 1) := by decide +kernel
theorem dJ7_copyOfRangeByte_39247_24 : decode cJ7_copyOfRangeByte_39247 24 = .ok (.invokestatic 304, 3) := by decide +kernel
theorem dJ7_copyOfRangeByte_39247_27 : decode cJ7_copyOfRangeByte_39247 27 = .ok (.invokestatic 150, 3) := by decide +kernel
theorem dJ7_copyOfRangeByte_39247_30 : decode cJ7_copyOfRangeByte_39247 30 = .ok (.aload 4, 2) := by decide +kernel
theorem dJ7_copyOfRangeByte_39247_32 : decode cJ7_copyOfRangeByte_39247 32 = .ok (.areturn, 1) := by decide +kernel
theorem dJ15_checkIndex_7cf53_0 : decode cJ15_checkIndex_7cf53 0 = .ok (.iload_n 0, 1) := by decide +kernel
theorem dJ15_checkIndex_7cf53_1 : decode cJ15_checkIndex_7cf53 1 = .ok (.iload_n 1, 1) := by decide +kernel
theorem dJ15_checkIndex_7cf53_2 : decode cJ15_checkIndex_7cf53 2 = .ok (.aconst_null, 1) := by decide +kernel
theorem dJ15_checkIndex_7cf53_3 : decode cJ15_checkIndex_7cf53 3 = .ok (.invokestatic 105, 3) := by decide +kernel
theorem dJ15_checkIndex_7cf53_6 : decode cJ15_checkIndex_7cf53 6 = .ok (.ireturn, 1) := by decide +kernel
theorem dJ8_newLength_cabcc_0 : decode cJ8_newLength_cabcc 0 = .ok (.iload_n 0, 1) := by decide +kernel
theorem dJ8_newLength_cabcc_1 : decode cJ8_newLength_cabcc 1 = .ok (.iload_n 1, 1) := by decide +kernel
theorem dJ8_newLength_cabcc_2 : decode cJ8_newLength_cabcc 2 = .ok (.iload_n 2, 1) := by decide +kernel
theorem dJ8_newLength_cabcc_3 : decode cJ8_newLength_cabcc 3 = .ok (.invokestatic 194, 3) := by decide +kernel
theorem dJ8_newLength_cabcc_6 : decode cJ8_newLength_cabcc 6 = .ok (.iadd, 1) := by decide +kernel
theorem dJ8_newLength_cabcc_7 : decode cJ8_newLength_cabcc 7 = .ok (.istore_n 3, 1) := by decide +kernel
theorem dJ8_newLength_cabcc_8 : decode cJ8_newLength_cabcc 8 = .ok (.iconst 0, 1) := by decide +kernel
theorem dJ8_newLength_cabcc_9 : decode cJ8_newLength_cabcc 9 = .ok (.iload_n 3, 1) := by decide +kernel
theorem dJ8_newLength_cabcc_10 : decode cJ8_newLength_cabcc 10 = .ok (.if_icmp .ge 11, 3) := by decide +kernel
theorem dJ8_newLength_cabcc_13 : decode cJ8_newLength_cabcc 13 = .ok (.iload_n 3, 1) := by decide +kernel
theorem dJ8_newLength_cabcc_14 : decode cJ8_newLength_cabcc 14 = .ok (.ldc 200, 2) := by decide +kernel
theorem dJ8_newLength_cabcc_16 : decode cJ8_newLength_cabcc 16 = .ok (.if_icmp .gt 5, 3) := by decide +kernel
theorem dJ8_newLength_cabcc_19 : decode cJ8_newLength_cabcc 19 = .ok (.iload_n 3, 1) := by decide +kernel
theorem dJ8_newLength_cabcc_20 : decode cJ8_newLength_cabcc 20 = .ok (.ireturn, 1) := by decide +kernel
theorem dJ8_newLength_cabcc_21 : decode cJ8_newLength_cabcc 21 = .ok (.iload_n 0, 1) := by decide +kernel
theorem dJ8_newLength_cabcc_22 : decode cJ8_newLength_cabcc 22 = .ok (.iload_n 1, 1) := by decide +kernel
theorem dJ8_newLength_cabcc_23 : decode cJ8_newLength_cabcc 23 = .ok (.invokestatic 201, 3) := by decide +kernel
theorem dJ8_newLength_cabcc_26 : decode cJ8_newLength_cabcc 26 = .ok (.ireturn, 1) := by decide +kernel
theorem dJ8_hugeLength_7cf53_0 : decode cJ8_hugeLength_7cf53 0 = .ok (.iload_n 0, 1) := by decide +kernel
theorem dJ8_hugeLength_7cf53_1 : decode cJ8_hugeLength_7cf53 1 = .ok (.iload_n 1, 1) := by decide +kernel
theorem dJ8_hugeLength_7cf53_2 : decode cJ8_hugeLength_7cf53 2 = .ok (.iadd, 1) := by decide +kernel
theorem dJ8_hugeLength_7cf53_3 : decode cJ8_hugeLength_7cf53 3 = .ok (.istore_n 2, 1) := by decide +kernel
theorem dJ8_hugeLength_7cf53_4 : decode cJ8_hugeLength_7cf53 4 = .ok (.iload_n 2, 1) := by decide +kernel
theorem dJ8_hugeLength_7cf53_5 : decode cJ8_hugeLength_7cf53 5 = .ok (.ifCond .ge 44, 3) := by decide +kernel
theorem dJ8_hugeLength_7cf53_8 : decode cJ8_hugeLength_7cf53 8 = .ok (.new 204, 3) := by decide +kernel
theorem dJ8_hugeLength_7cf53_11 : decode cJ8_hugeLength_7cf53 11 = .ok (.dup, 1) := by decide +kernel
theorem dJ8_hugeLength_7cf53_12 : decode cJ8_hugeLength_7cf53 12 = .ok (.new 89, 3) := by decide +kernel
theorem dJ8_hugeLength_7cf53_15 : decode cJ8_hugeLength_7cf53 15 = .ok (.dup, 1) := by decide +kernel
theorem dJ8_hugeLength_7cf53_16 : decode cJ8_hugeLength_7cf53 16 = .ok (.invokespecial 91, 3) := by decide +kernel
theorem dJ8_hugeLength_7cf53_19 : decode cJ8_hugeLength_7cf53 19 = .ok (.ldc 206, 2) := by decide +kernel
theorem dJ8_hugeLength_7cf53_21 : decode cJ8_hugeLength_7cf53 21 = .ok (.invokevirtual 94, 3) := by decide +kernel
theorem dJ8_hugeLength_7cf53_24 : decode cJ8_hugeLength_7cf53 24 = .ok (.iload_n 0, 1) := by decide +kernel
theorem dJ8_hugeLength_7cf53_25 : decode cJ8_hugeLength_7cf53 25 = .ok (.invokevirtual 98, 3) := by decide +kernel
theorem dJ8_hugeLength_7cf53_28 : decode cJ8_hugeLength_7cf53 28 = .ok (.ldc 208, 2) := by decide +kernel
theorem dJ8_hugeLength_7cf53_30 : decode cJ8_hugeLength_7cf53 30 = .ok (.invokevirtual 94, 3) := by decide +kernel
theorem dJ8_hugeLength_7cf53_33 : decode cJ8_hugeLength_7cf53 33 = .ok (.iload_n 1, 1) := by decide +kernel
theorem dJ8_hugeLength_7cf53_34 : decode cJ8_hugeLength_7cf53 34 = .ok (.invokevirtual 98, 3) := by decide +kernel
theorem dJ8_hugeLength_7cf53_37 : decode cJ8_hugeLength_7cf53 37 = .ok (.ldc 210, 2) := by decide +kernel
theorem dJ8_hugeLength_7cf53_39 : decode cJ8_hugeLength_7cf53 39 = .ok (.invokevirtual 94, 3) := by decide +kernel
theorem dJ8_hugeLength_7cf53_42 : decode cJ8_hugeLength_7cf53 42 = .ok (.invokevirtual 101, 3) := by decide +kernel
theorem dJ8_hugeLength_7cf53_45 : decode cJ8_hugeLength_7cf53 45 = .ok (.invokespecial 212, 3) := by decide +kernel
theorem dJ8_hugeLength_7cf53_48 : decode cJ8_hugeLength_7cf53 48 = .ok (.athrow, 1) := by decide +kernel
theorem dJ8_hugeLength_7cf53_49 : decode cJ8_hugeLength_7cf53 49 = .ok (.iload_n 2, 1) := by decide +kernel
theorem dJ8_hugeLength_7cf53_50 : decode cJ8_hugeLength_7cf53 50 = .ok (.ldc 200, 2) := by decide +kernel
theorem dJ8_hugeLength_7cf53_52 : decode cJ8_hugeLength_7cf53 52 = .ok (.if_icmp .gt 6, 3) := by decide +kernel
theorem dJ8_hugeLength_7cf53_55 : decode cJ8_hugeLength_7cf53 55 = .ok (.ldc 200, 2) := by decide +kernel
theorem dJ8_hugeLength_7cf53_57 : decode cJ8_hugeLength_7cf53 57 = .ok (.ireturn, 1) := by decide +kernel
theorem dJ8_hugeLength_7cf53_58 : decode cJ8_hugeLength_7cf53 58 = .ok (.iload_n 2, 1) := by decide +kernel
theorem dJ8_hugeLength_7cf53_59 : decode cJ8_hugeLength_7cf53 59 = .ok (.ireturn, 1) := by decide +kernel
theorem dJ3_checkIndex_8e157_0 : decode cJ3_checkIndex_8e157 0 = .ok (.iload_n 0, 1) := by decide +kernel
theorem dJ3_checkIndex_8e157_1 : decode cJ3_checkIndex_8e157 1 = .ok (.ifCond .lt 8, 3) := by decide +kernel
theorem dJ3_checkIndex_8e157_4 : decode cJ3_checkIndex_8e157 4 = .ok (.iload_n 0, 1) := by decide +kernel
theorem dJ3_checkIndex_8e157_5 : decode cJ3_checkIndex_8e157 5 = .ok (.iload_n 1, 1) := by decide +kernel
theorem dJ3_checkIndex_8e157_6 : decode cJ3_checkIndex_8e157 6 = .ok (.if_icmp .lt 10, 3) := by decide +kernel
theorem dJ3_checkIndex_8e157_9 : decode cJ3_checkIndex_8e157 9 = .ok (.aload_n 2, 1) := by decide +kernel
theorem dJ3_checkIndex_8e157_10 : decode cJ3_checkIndex_8e157 10 = .ok (.iload_n 0, 1) := by decide +kernel
theorem dJ3_checkIndex_8e157_11 : decode cJ3_checkIndex_8e157 11 = .ok (.iload_n 1, 1) := by decide +kernel
theorem dJ3_checkIndex_8e157_12 : decode cJ3_checkIndex_8e157 12 = .ok (.invokestatic 95, 3) := by decide +kernel
theorem dJ3_checkIndex_8e157_15 : decode cJ3_checkIndex_8e157 15 = .ok (.athrow, 1) := by decide +kernel
theorem dJ3_checkIndex_8e157_16 : decode cJ3_checkIndex_8e157 16 = .ok (.iload_n 0, 1) := by decide +kernel
theorem dJ3_checkIndex_8e157_17 : decode cJ3_checkIndex_8e157 17 = .ok (.ireturn, 1) := by decide +kernel
theorem dJ3_checkFromToIndex_8c36e_0 : decode cJ3_checkFromToIndex_8c36e 0 = .ok (.iload_n 0, 1) := by decide +kernel
theorem dJ3_checkFromToIndex_8c36e_1 : decode cJ3_checkFromToIndex_8c36e 1 = .ok (.ifCond .lt 13, 3) := by decide +kernel
theorem dJ3_checkFromToIndex_8c36e_4 : decode cJ3_checkFromToIndex_8c36e 4 = .ok (.iload_n 0, 1) := by decide +kernel
theorem dJ3_checkFromToIndex_8c36e_5 : decode cJ3_checkFromToIndex_8c36e 5 = .ok (.iload_n 1, 1) := by decide +kernel
theorem dJ3_checkFromToIndex_8c36e_6 : decode cJ3_checkFromToIndex_8c36e 6 = .ok (.if_icmp .gt 8, 3) := by decide +kernel
theorem dJ3_checkFromToIndex_8c36e_9 : decode cJ3_checkFromToIndex_8c36e 9 = .ok (.iload_n 1, 1) := by decide +kernel
theorem dJ3_checkFromToIndex_8c36e_10 : decode cJ3_checkFromToIndex_8c36e 10 = .ok (.iload_n 2, 1) := by decide +kernel
theorem dJ3_checkFromToIndex_8c36e_11 : decode cJ3_checkFromToIndex_8c36e 11 = .ok (.if_icmp .le 11, 3) := by decide +kernel
theorem dJ3_checkFromToIndex_8c36e_14 : decode cJ3_checkFromToIndex_8c36e 14 = .ok (.aload_n 3, 1) := by decide +kernel
theorem dJ3_checkFromToIndex_8c36e_15 : decode cJ3_checkFromToIndex_8c36e 15 = .ok (.iload_n 0, 1) := by decide +kernel
theorem dJ3_checkFromToIndex_8c36e_16 : decode cJ3_checkFromToIndex_8c36e 16 = .ok (.iload_n 1, 1) := by decide +kernel
theorem dJ3_checkFromToIndex_8c36e_17 : decode cJ3_checkFromToIndex_8c36e 17 = .ok (.iload_n 2, 1) := by decide +kernel
theorem dJ3_checkFromToIndex_8c36e_18 : decode cJ3_checkFromToIndex_8c36e 18 = .ok (.invokestatic 99, 3) := by decide +kernel
theorem dJ3_checkFromToIndex_8c36e_21 : decode cJ3_checkFromToIndex_8c36e 21 = .ok (.athrow, 1) := by decide +kernel
theorem dJ3_checkFromToIndex_8c36e_22 : decode cJ3_checkFromToIndex_8c36e 22 = .ok (.iload_n 0, 1) := by decide +kernel
theorem dJ3_checkFromToIndex_8c36e_23 : decode cJ3_checkFromToIndex_8c36e 23 = .ok (.ireturn, 1) := by decide +kernel
theorem dJ3_checkFromIndexSize_8c36e_0 : decode cJ3_checkFromIndexSize_8c36e 0 = .ok (.iload_n 2, 1) := by decide +kernel
theorem dJ3_checkFromIndexSize_8c36e_1 : decode cJ3_checkFromIndexSize_8c36e 1 = .ok (.iload_n 0, 1) := by decide +kernel
theorem dJ3_checkFromIndexSize_8c36e_2 : decode cJ3_checkFromIndexSize_8c36e 2 = .ok (.ior, 1) := by decide +kernel
theorem dJ3_checkFromIndexSize_8c36e_3 : decode cJ3_checkFromIndexSize_8c36e 3 = .ok (.iload_n 1, 1) := by decide +kernel
theorem dJ3_checkFromIndexSize_8c36e_4 : decode cJ3_checkFromIndexSize_8c36e 4 = .ok (.ior, 1) := by decide +kernel
theorem dJ3_checkFromIndexSize_8c36e_5 : decode cJ3_checkFromIndexSize_8c36e 5 = .ok (.ifCond .lt 10, 3) := by decide +kernel
theorem dJ3_checkFromIndexSize_8c36e_8 : decode cJ3_checkFromIndexSize_8c36e 8 = .ok (.iload_n 1, 1) := by decide +kernel
theorem dJ3_checkFromIndexSize_8c36e_9 : decode cJ3_checkFromIndexSize_8c36e 9 = .ok (.iload_n 2, 1) := by decide +kernel
theorem dJ3_checkFromIndexSize_8c36e_10 : decode cJ3_checkFromIndexSize_8c36e 10 = .ok (.iload_n 0, 1) := by decide +kernel
theorem dJ3_checkFromIndexSize_8c36e_11 : decode cJ3_checkFromIndexSize_8c36e 11 = .ok (.isub, 1) := by decide +kernel
theorem dJ3_checkFromIndexSize_8c36e_12 : decode cJ3_checkFromIndexSize_8c36e 12 = .ok (.if_icmp .le 11, 3) := by decide +kernel
theorem dJ3_checkFromIndexSize_8c36e_15 : decode cJ3_checkFromIndexSize_8c36e 15 = .ok (.aload_n 3, 1) := by decide +kernel
theorem dJ3_checkFromIndexSize_8c36e_16 : decode cJ3_checkFromIndexSize_8c36e 16 = .ok (.iload_n 0, 1) := by decide +kernel
theorem dJ3_checkFromIndexSize_8c36e_17 : decode cJ3_checkFromIndexSize_8c36e 17 = .ok (.iload_n 1, 1) := by decide +kernel
theorem dJ3_checkFromIndexSize_8c36e_18 : decode cJ3_checkFromIndexSize_8c36e 18 = .ok (.iload_n 2, 1) := by decide +kernel
theorem dJ3_checkFromIndexSize_8c36e_19 : decode cJ3_checkFromIndexSize_8c36e 19 = .ok (.invokestatic 103, 3) := by decide +kernel
theorem dJ3_checkFromIndexSize_8c36e_22 : decode cJ3_checkFromIndexSize_8c36e 22 = .ok (.athrow, 1) := by decide +kernel
theorem dJ3_checkFromIndexSize_8c36e_23 : decode cJ3_checkFromIndexSize_8c36e 23 = .ok (.iload_n 0, 1) := by decide +kernel
theorem dJ3_checkFromIndexSize_8c36e_24 : decode cJ3_checkFromIndexSize_8c36e 24 = .ok (.ireturn, 1) := by decide +kernel
theorem dL_pass_0 : decode cL_pass 0 = .ok (.aload_n 2, 1) := by decide +kernel
theorem dL_pass_1 : decode cL_pass 1 = .ok (.iconst 0, 1) := by decide +kernel
theorem dL_pass_2 : decode cL_pass 2 = .ok (.aload_n 0, 1) := by decide +kernel
theorem dL_pass_3 : decode cL_pass 3 = .ok (.iload_n 1, 1) := by decide +kernel
theorem dL_pass_4 : decode cL_pass 4 = .ok (.invokevirtual 7, 3) := by decide +kernel
theorem dL_pass_7 : decode cL_pass 7 = .ok (.i2l, 1) := by decide +kernel
theorem dL_pass_8 : decode cL_pass 8 = .ok (.lastore, 1) := by decide +kernel
theorem dL_pass_9 : decode cL_pass 9 = .ok (.goto 6, 3) := by decide +kernel
theorem dL_pass_12 : decode cL_pass 12 = .ok (.astore_n 3, 1) := by decide +kernel
theorem dL_pass_13 : decode cL_pass 13 = .ok (.iconst 1, 1) := by decide +kernel
theorem dL_pass_14 : decode cL_pass 14 = .ok (.ireturn, 1) := by decide +kernel
theorem dL_pass_15 : decode cL_pass 15 = .ok (.iconst 0, 1) := by decide +kernel
theorem dL_pass_16 : decode cL_pass 16 = .ok (.ireturn, 1) := by decide +kernel
theorem dL_setClass_0 : decode cL_setClass 0 = .ok (.aload_n 3, 1) := by decide +kernel
theorem dL_setClass_1 : decode cL_setClass 1 = .ok (.iconst 0, 1) := by decide +kernel
theorem dL_setClass_2 : decode cL_setClass 2 = .ok (.aload_n 0, 1) := by decide +kernel
theorem dL_setClass_3 : decode cL_setClass 3 = .ok (.iload_n 1, 1) := by decide +kernel
theorem dL_setClass_4 : decode cL_setClass 4 = .ok (.iload_n 2, 1) := by decide +kernel
theorem dL_setClass_5 : decode cL_setClass 5 = .ok (.invokevirtual 15, 3) := by decide +kernel
theorem dL_setClass_8 : decode cL_setClass 8 = .ok (.i2l, 1) := by decide +kernel
theorem dL_setClass_9 : decode cL_setClass 9 = .ok (.lastore, 1) := by decide +kernel
theorem dL_setClass_10 : decode cL_setClass 10 = .ok (.goto 7, 3) := by decide +kernel
theorem dL_setClass_13 : decode cL_setClass 13 = .ok (.astore 4, 2) := by decide +kernel
theorem dL_setClass_15 : decode cL_setClass 15 = .ok (.iconst 1, 1) := by decide +kernel
theorem dL_setClass_16 : decode cL_setClass 16 = .ok (.ireturn, 1) := by decide +kernel
theorem dL_setClass_17 : decode cL_setClass 17 = .ok (.iconst 0, 1) := by decide +kernel
theorem dL_setClass_18 : decode cL_setClass 18 = .ok (.ireturn, 1) := by decide +kernel
theorem dL_setPromise_0 : decode cL_setPromise 0 = .ok (.aload_n 3, 1) := by decide +kernel
theorem dL_setPromise_1 : decode cL_setPromise 1 = .ok (.iconst 0, 1) := by decide +kernel
theorem dL_setPromise_2 : decode cL_setPromise 2 = .ok (.aload_n 0, 1) := by decide +kernel
theorem dL_setPromise_3 : decode cL_setPromise 3 = .ok (.iload_n 1, 1) := by decide +kernel
theorem dL_setPromise_4 : decode cL_setPromise 4 = .ok (.iload_n 2, 1) := by decide +kernel
theorem dL_setPromise_5 : decode cL_setPromise 5 = .ok (.invokevirtual 19, 3) := by decide +kernel
theorem dL_setPromise_8 : decode cL_setPromise 8 = .ok (.i2l, 1) := by decide +kernel
theorem dL_setPromise_9 : decode cL_setPromise 9 = .ok (.lastore, 1) := by decide +kernel
theorem dL_setPromise_10 : decode cL_setPromise 10 = .ok (.goto 7, 3) := by decide +kernel
theorem dL_setPromise_13 : decode cL_setPromise 13 = .ok (.astore 4, 2) := by decide +kernel
theorem dL_setPromise_15 : decode cL_setPromise 15 = .ok (.iconst 1, 1) := by decide +kernel
theorem dL_setPromise_16 : decode cL_setPromise 16 = .ok (.ireturn, 1) := by decide +kernel
theorem dL_setPromise_17 : decode cL_setPromise 17 = .ok (.iconst 0, 1) := by decide +kernel
theorem dL_setPromise_18 : decode cL_setPromise 18 = .ok (.ireturn, 1) := by decide +kernel
theorem dL_mail_0 : decode cL_mail 0 = .ok (.aload 6, 2) := by decide +kernel
theorem dL_mail_2 : decode cL_mail 2 = .ok (.iconst 0, 1) := by decide +kernel
theorem dL_mail_3 : decode cL_mail 3 = .ok (.aload_n 0, 1) := by decide +kernel
theorem dL_mail_4 : decode cL_mail 4 = .ok (.iload_n 1, 1) := by decide +kernel
theorem dL_mail_5 : decode cL_mail 5 = .ok (.iload_n 2, 1) := by decide +kernel
theorem dL_mail_6 : decode cL_mail 6 = .ok (.iload_n 3, 1) := by decide +kernel
theorem dL_mail_7 : decode cL_mail 7 = .ok (.iload 4, 2) := by decide +kernel
theorem dL_mail_9 : decode cL_mail 9 = .ok (.iload 5, 2) := by decide +kernel
theorem dL_mail_11 : decode cL_mail 11 = .ok (.invokevirtual 22, 3) := by decide +kernel
theorem dL_mail_14 : decode cL_mail 14 = .ok (.i2l, 1) := by decide +kernel
theorem dL_mail_15 : decode cL_mail 15 = .ok (.lastore, 1) := by decide +kernel
theorem dL_mail_16 : decode cL_mail 16 = .ok (.goto 15, 3) := by decide +kernel
theorem dL_mail_19 : decode cL_mail 19 = .ok (.astore 7, 2) := by decide +kernel
theorem dL_mail_21 : decode cL_mail 21 = .ok (.iconst 1, 1) := by decide +kernel
theorem dL_mail_22 : decode cL_mail 22 = .ok (.ireturn, 1) := by decide +kernel
theorem dL_mail_23 : decode cL_mail 23 = .ok (.astore 7, 2) := by decide +kernel
theorem dL_mail_25 : decode cL_mail 25 = .ok (.iconst 2, 1) := by decide +kernel
theorem dL_mail_26 : decode cL_mail 26 = .ok (.ireturn, 1) := by decide +kernel
theorem dL_mail_27 : decode cL_mail 27 = .ok (.astore 7, 2) := by decide +kernel
theorem dL_mail_29 : decode cL_mail 29 = .ok (.iconst 3, 1) := by decide +kernel
theorem dL_mail_30 : decode cL_mail 30 = .ok (.ireturn, 1) := by decide +kernel
theorem dL_mail_31 : decode cL_mail 31 = .ok (.iconst 0, 1) := by decide +kernel
theorem dL_mail_32 : decode cL_mail 32 = .ok (.ireturn, 1) := by decide +kernel
theorem dL_ticketOf_0 : decode cL_ticketOf 0 = .ok (.aload_n 2, 1) := by decide +kernel
theorem dL_ticketOf_1 : decode cL_ticketOf 1 = .ok (.iconst 0, 1) := by decide +kernel
theorem dL_ticketOf_2 : decode cL_ticketOf 2 = .ok (.aload_n 0, 1) := by decide +kernel
theorem dL_ticketOf_3 : decode cL_ticketOf 3 = .ok (.iload_n 1, 1) := by decide +kernel
theorem dL_ticketOf_4 : decode cL_ticketOf 4 = .ok (.invokevirtual 30, 3) := by decide +kernel
theorem dL_ticketOf_7 : decode cL_ticketOf 7 = .ok (.i2l, 1) := by decide +kernel
theorem dL_ticketOf_8 : decode cL_ticketOf 8 = .ok (.lastore, 1) := by decide +kernel
theorem dL_ticketOf_9 : decode cL_ticketOf 9 = .ok (.goto 6, 3) := by decide +kernel
theorem dL_ticketOf_12 : decode cL_ticketOf 12 = .ok (.astore_n 3, 1) := by decide +kernel
theorem dL_ticketOf_13 : decode cL_ticketOf 13 = .ok (.iconst 1, 1) := by decide +kernel
theorem dL_ticketOf_14 : decode cL_ticketOf 14 = .ok (.ireturn, 1) := by decide +kernel
theorem dL_ticketOf_15 : decode cL_ticketOf 15 = .ok (.iconst 0, 1) := by decide +kernel
theorem dL_ticketOf_16 : decode cL_ticketOf 16 = .ok (.ireturn, 1) := by decide +kernel
theorem dL_mailsOf_0 : decode cL_mailsOf 0 = .ok (.aload_n 2, 1) := by decide +kernel
theorem dL_mailsOf_1 : decode cL_mailsOf 1 = .ok (.iconst 0, 1) := by decide +kernel
theorem dL_mailsOf_2 : decode cL_mailsOf 2 = .ok (.aload_n 0, 1) := by decide +kernel
theorem dL_mailsOf_3 : decode cL_mailsOf 3 = .ok (.iload_n 1, 1) := by decide +kernel
theorem dL_mailsOf_4 : decode cL_mailsOf 4 = .ok (.invokevirtual 33, 3) := by decide +kernel
theorem dL_mailsOf_7 : decode cL_mailsOf 7 = .ok (.i2l, 1) := by decide +kernel
theorem dL_mailsOf_8 : decode cL_mailsOf 8 = .ok (.lastore, 1) := by decide +kernel
theorem dL_mailsOf_9 : decode cL_mailsOf 9 = .ok (.goto 6, 3) := by decide +kernel
theorem dL_mailsOf_12 : decode cL_mailsOf 12 = .ok (.astore_n 3, 1) := by decide +kernel
theorem dL_mailsOf_13 : decode cL_mailsOf 13 = .ok (.iconst 1, 1) := by decide +kernel
theorem dL_mailsOf_14 : decode cL_mailsOf 14 = .ok (.ireturn, 1) := by decide +kernel
theorem dL_mailsOf_15 : decode cL_mailsOf 15 = .ok (.iconst 0, 1) := by decide +kernel
theorem dL_mailsOf_16 : decode cL_mailsOf 16 = .ok (.ireturn, 1) := by decide +kernel
theorem dL_mailAt_0 : decode cL_mailAt 0 = .ok (.aload_n 3, 1) := by decide +kernel
theorem dL_mailAt_1 : decode cL_mailAt 1 = .ok (.iconst 0, 1) := by decide +kernel
theorem dL_mailAt_2 : decode cL_mailAt 2 = .ok (.aload_n 0, 1) := by decide +kernel
theorem dL_mailAt_3 : decode cL_mailAt 3 = .ok (.iload_n 1, 1) := by decide +kernel
theorem dL_mailAt_4 : decode cL_mailAt 4 = .ok (.iload_n 2, 1) := by decide +kernel
theorem dL_mailAt_5 : decode cL_mailAt 5 = .ok (.invokevirtual 38, 3) := by decide +kernel
theorem dL_mailAt_8 : decode cL_mailAt 8 = .ok (.i2l, 1) := by decide +kernel
theorem dL_mailAt_9 : decode cL_mailAt 9 = .ok (.lastore, 1) := by decide +kernel
theorem dL_mailAt_10 : decode cL_mailAt 10 = .ok (.goto 11, 3) := by decide +kernel
theorem dL_mailAt_13 : decode cL_mailAt 13 = .ok (.astore 4, 2) := by decide +kernel
theorem dL_mailAt_15 : decode cL_mailAt 15 = .ok (.iconst 1, 1) := by decide +kernel
theorem dL_mailAt_16 : decode cL_mailAt 16 = .ok (.ireturn, 1) := by decide +kernel
theorem dL_mailAt_17 : decode cL_mailAt 17 = .ok (.astore 4, 2) := by decide +kernel
theorem dL_mailAt_19 : decode cL_mailAt 19 = .ok (.iconst 2, 1) := by decide +kernel
theorem dL_mailAt_20 : decode cL_mailAt 20 = .ok (.ireturn, 1) := by decide +kernel
theorem dL_mailAt_21 : decode cL_mailAt 21 = .ok (.iconst 0, 1) := by decide +kernel
theorem dL_mailAt_22 : decode cL_mailAt 22 = .ok (.ireturn, 1) := by decide +kernel
theorem dL_stateOf_0 : decode cL_stateOf 0 = .ok (.aload_n 2, 1) := by decide +kernel
theorem dL_stateOf_1 : decode cL_stateOf 1 = .ok (.iconst 0, 1) := by decide +kernel
theorem dL_stateOf_2 : decode cL_stateOf 2 = .ok (.aload_n 0, 1) := by decide +kernel
theorem dL_stateOf_3 : decode cL_stateOf 3 = .ok (.iload_n 1, 1) := by decide +kernel
theorem dL_stateOf_4 : decode cL_stateOf 4 = .ok (.invokevirtual 41, 3) := by decide +kernel
theorem dL_stateOf_7 : decode cL_stateOf 7 = .ok (.i2l, 1) := by decide +kernel
theorem dL_stateOf_8 : decode cL_stateOf 8 = .ok (.lastore, 1) := by decide +kernel
theorem dL_stateOf_9 : decode cL_stateOf 9 = .ok (.goto 6, 3) := by decide +kernel
theorem dL_stateOf_12 : decode cL_stateOf 12 = .ok (.astore_n 3, 1) := by decide +kernel
theorem dL_stateOf_13 : decode cL_stateOf 13 = .ok (.iconst 1, 1) := by decide +kernel
theorem dL_stateOf_14 : decode cL_stateOf 14 = .ok (.ireturn, 1) := by decide +kernel
theorem dL_stateOf_15 : decode cL_stateOf 15 = .ok (.iconst 0, 1) := by decide +kernel
theorem dL_stateOf_16 : decode cL_stateOf 16 = .ok (.ireturn, 1) := by decide +kernel
theorem dL_mergedInto_0 : decode cL_mergedInto 0 = .ok (.aload_n 2, 1) := by decide +kernel
theorem dL_mergedInto_1 : decode cL_mergedInto 1 = .ok (.iconst 0, 1) := by decide +kernel
theorem dL_mergedInto_2 : decode cL_mergedInto 2 = .ok (.aload_n 0, 1) := by decide +kernel
theorem dL_mergedInto_3 : decode cL_mergedInto 3 = .ok (.iload_n 1, 1) := by decide +kernel
theorem dL_mergedInto_4 : decode cL_mergedInto 4 = .ok (.invokevirtual 45, 3) := by decide +kernel
theorem dL_mergedInto_7 : decode cL_mergedInto 7 = .ok (.i2l, 1) := by decide +kernel
theorem dL_mergedInto_8 : decode cL_mergedInto 8 = .ok (.lastore, 1) := by decide +kernel
theorem dL_mergedInto_9 : decode cL_mergedInto 9 = .ok (.goto 9, 3) := by decide +kernel
theorem dL_mergedInto_12 : decode cL_mergedInto 12 = .ok (.astore_n 3, 1) := by decide +kernel
theorem dL_mergedInto_13 : decode cL_mergedInto 13 = .ok (.iconst 1, 1) := by decide +kernel
theorem dL_mergedInto_14 : decode cL_mergedInto 14 = .ok (.ireturn, 1) := by decide +kernel
theorem dL_mergedInto_15 : decode cL_mergedInto 15 = .ok (.astore_n 3, 1) := by decide +kernel
theorem dL_mergedInto_16 : decode cL_mergedInto 16 = .ok (.iconst 2, 1) := by decide +kernel
theorem dL_mergedInto_17 : decode cL_mergedInto 17 = .ok (.ireturn, 1) := by decide +kernel
theorem dL_mergedInto_18 : decode cL_mergedInto 18 = .ok (.iconst 0, 1) := by decide +kernel
theorem dL_mergedInto_19 : decode cL_mergedInto 19 = .ok (.ireturn, 1) := by decide +kernel
theorem dL_setTopic_0 : decode cL_setTopic 0 = .ok (.aload_n 3, 1) := by decide +kernel
theorem dL_setTopic_1 : decode cL_setTopic 1 = .ok (.iconst 0, 1) := by decide +kernel
theorem dL_setTopic_2 : decode cL_setTopic 2 = .ok (.aload_n 0, 1) := by decide +kernel
theorem dL_setTopic_3 : decode cL_setTopic 3 = .ok (.iload_n 1, 1) := by decide +kernel
theorem dL_setTopic_4 : decode cL_setTopic 4 = .ok (.iload_n 2, 1) := by decide +kernel
theorem dL_setTopic_5 : decode cL_setTopic 5 = .ok (.invokevirtual 48, 3) := by decide +kernel
theorem dL_setTopic_8 : decode cL_setTopic 8 = .ok (.i2l, 1) := by decide +kernel
theorem dL_setTopic_9 : decode cL_setTopic 9 = .ok (.lastore, 1) := by decide +kernel
theorem dL_setTopic_10 : decode cL_setTopic 10 = .ok (.goto 15, 3) := by decide +kernel
theorem dL_setTopic_13 : decode cL_setTopic 13 = .ok (.astore 4, 2) := by decide +kernel
theorem dL_setTopic_15 : decode cL_setTopic 15 = .ok (.iconst 1, 1) := by decide +kernel
theorem dL_setTopic_16 : decode cL_setTopic 16 = .ok (.ireturn, 1) := by decide +kernel
theorem dL_setTopic_17 : decode cL_setTopic 17 = .ok (.astore 4, 2) := by decide +kernel
theorem dL_setTopic_19 : decode cL_setTopic 19 = .ok (.iconst 2, 1) := by decide +kernel
theorem dL_setTopic_20 : decode cL_setTopic 20 = .ok (.ireturn, 1) := by decide +kernel
theorem dL_setTopic_21 : decode cL_setTopic 21 = .ok (.astore 4, 2) := by decide +kernel
theorem dL_setTopic_23 : decode cL_setTopic 23 = .ok (.iconst 3, 1) := by decide +kernel
theorem dL_setTopic_24 : decode cL_setTopic 24 = .ok (.ireturn, 1) := by decide +kernel
theorem dL_setTopic_25 : decode cL_setTopic 25 = .ok (.iconst 0, 1) := by decide +kernel
theorem dL_setTopic_26 : decode cL_setTopic 26 = .ok (.ireturn, 1) := by decide +kernel
theorem dL_clock_0 : decode cL_clock 0 = .ok (.aload_n 2, 1) := by decide +kernel
theorem dL_clock_1 : decode cL_clock 1 = .ok (.iconst 0, 1) := by decide +kernel
theorem dL_clock_2 : decode cL_clock 2 = .ok (.aload_n 0, 1) := by decide +kernel
theorem dL_clock_3 : decode cL_clock 3 = .ok (.iload_n 1, 1) := by decide +kernel
theorem dL_clock_4 : decode cL_clock 4 = .ok (.invokevirtual 51, 3) := by decide +kernel
theorem dL_clock_7 : decode cL_clock 7 = .ok (.i2l, 1) := by decide +kernel
theorem dL_clock_8 : decode cL_clock 8 = .ok (.lastore, 1) := by decide +kernel
theorem dL_clock_9 : decode cL_clock 9 = .ok (.goto 9, 3) := by decide +kernel
theorem dL_clock_12 : decode cL_clock 12 = .ok (.astore_n 3, 1) := by decide +kernel
theorem dL_clock_13 : decode cL_clock 13 = .ok (.iconst 1, 1) := by decide +kernel
theorem dL_clock_14 : decode cL_clock 14 = .ok (.ireturn, 1) := by decide +kernel
theorem dL_clock_15 : decode cL_clock 15 = .ok (.astore_n 3, 1) := by decide +kernel
theorem dL_clock_16 : decode cL_clock 16 = .ok (.iconst 2, 1) := by decide +kernel
theorem dL_clock_17 : decode cL_clock 17 = .ok (.ireturn, 1) := by decide +kernel
theorem dL_clock_18 : decode cL_clock 18 = .ok (.iconst 0, 1) := by decide +kernel
theorem dL_clock_19 : decode cL_clock 19 = .ok (.ireturn, 1) := by decide +kernel
theorem dL_leftOf_0 : decode cL_leftOf 0 = .ok (.aload_n 2, 1) := by decide +kernel
theorem dL_leftOf_1 : decode cL_leftOf 1 = .ok (.iconst 0, 1) := by decide +kernel
theorem dL_leftOf_2 : decode cL_leftOf 2 = .ok (.aload_n 0, 1) := by decide +kernel
theorem dL_leftOf_3 : decode cL_leftOf 3 = .ok (.iload_n 1, 1) := by decide +kernel
theorem dL_leftOf_4 : decode cL_leftOf 4 = .ok (.invokevirtual 54, 3) := by decide +kernel
theorem dL_leftOf_7 : decode cL_leftOf 7 = .ok (.i2l, 1) := by decide +kernel
theorem dL_leftOf_8 : decode cL_leftOf 8 = .ok (.lastore, 1) := by decide +kernel
theorem dL_leftOf_9 : decode cL_leftOf 9 = .ok (.goto 9, 3) := by decide +kernel
theorem dL_leftOf_12 : decode cL_leftOf 12 = .ok (.astore_n 3, 1) := by decide +kernel
theorem dL_leftOf_13 : decode cL_leftOf 13 = .ok (.iconst 1, 1) := by decide +kernel
theorem dL_leftOf_14 : decode cL_leftOf 14 = .ok (.ireturn, 1) := by decide +kernel
theorem dL_leftOf_15 : decode cL_leftOf 15 = .ok (.astore_n 3, 1) := by decide +kernel
theorem dL_leftOf_16 : decode cL_leftOf 16 = .ok (.iconst 2, 1) := by decide +kernel
theorem dL_leftOf_17 : decode cL_leftOf 17 = .ok (.ireturn, 1) := by decide +kernel
theorem dL_leftOf_18 : decode cL_leftOf 18 = .ok (.iconst 0, 1) := by decide +kernel
theorem dL_leftOf_19 : decode cL_leftOf 19 = .ok (.ireturn, 1) := by decide +kernel
theorem dL_isBreached_0 : decode cL_isBreached 0 = .ok (.aload_n 2, 1) := by decide +kernel
theorem dL_isBreached_1 : decode cL_isBreached 1 = .ok (.iconst 0, 1) := by decide +kernel
theorem dL_isBreached_2 : decode cL_isBreached 2 = .ok (.aload_n 0, 1) := by decide +kernel
theorem dL_isBreached_3 : decode cL_isBreached 3 = .ok (.iload_n 1, 1) := by decide +kernel
theorem dL_isBreached_4 : decode cL_isBreached 4 = .ok (.invokevirtual 57, 3) := by decide +kernel
theorem dL_isBreached_7 : decode cL_isBreached 7 = .ok (.ifCond .eq 7, 3) := by decide +kernel
theorem dL_isBreached_10 : decode cL_isBreached 10 = .ok (.lconst 1, 1) := by decide +kernel
theorem dL_isBreached_11 : decode cL_isBreached 11 = .ok (.goto 4, 3) := by decide +kernel
theorem dL_isBreached_14 : decode cL_isBreached 14 = .ok (.lconst 0, 1) := by decide +kernel
theorem dL_isBreached_15 : decode cL_isBreached 15 = .ok (.lastore, 1) := by decide +kernel
theorem dL_isBreached_16 : decode cL_isBreached 16 = .ok (.goto 6, 3) := by decide +kernel
theorem dL_isBreached_19 : decode cL_isBreached 19 = .ok (.astore_n 3, 1) := by decide +kernel
theorem dL_isBreached_20 : decode cL_isBreached 20 = .ok (.iconst 1, 1) := by decide +kernel
theorem dL_isBreached_21 : decode cL_isBreached 21 = .ok (.ireturn, 1) := by decide +kernel
theorem dL_isBreached_22 : decode cL_isBreached 22 = .ok (.iconst 0, 1) := by decide +kernel
theorem dL_isBreached_23 : decode cL_isBreached 23 = .ok (.ireturn, 1) := by decide +kernel
theorem dL_addAgent_0 : decode cL_addAgent 0 = .ok (.aload_n 2, 1) := by decide +kernel
theorem dL_addAgent_1 : decode cL_addAgent 1 = .ok (.iconst 0, 1) := by decide +kernel
theorem dL_addAgent_2 : decode cL_addAgent 2 = .ok (.aload_n 0, 1) := by decide +kernel
theorem dL_addAgent_3 : decode cL_addAgent 3 = .ok (.iload_n 1, 1) := by decide +kernel
theorem dL_addAgent_4 : decode cL_addAgent 4 = .ok (.invokevirtual 61, 3) := by decide +kernel
theorem dL_addAgent_7 : decode cL_addAgent 7 = .ok (.i2l, 1) := by decide +kernel
theorem dL_addAgent_8 : decode cL_addAgent 8 = .ok (.lastore, 1) := by decide +kernel
theorem dL_addAgent_9 : decode cL_addAgent 9 = .ok (.goto 9, 3) := by decide +kernel
theorem dL_addAgent_12 : decode cL_addAgent 12 = .ok (.astore_n 3, 1) := by decide +kernel
theorem dL_addAgent_13 : decode cL_addAgent 13 = .ok (.iconst 1, 1) := by decide +kernel
theorem dL_addAgent_14 : decode cL_addAgent 14 = .ok (.ireturn, 1) := by decide +kernel
theorem dL_addAgent_15 : decode cL_addAgent 15 = .ok (.astore_n 3, 1) := by decide +kernel
theorem dL_addAgent_16 : decode cL_addAgent 16 = .ok (.iconst 2, 1) := by decide +kernel
theorem dL_addAgent_17 : decode cL_addAgent 17 = .ok (.ireturn, 1) := by decide +kernel
theorem dL_addAgent_18 : decode cL_addAgent 18 = .ok (.iconst 0, 1) := by decide +kernel
theorem dL_addAgent_19 : decode cL_addAgent 19 = .ok (.ireturn, 1) := by decide +kernel
theorem dL_learn_0 : decode cL_learn 0 = .ok (.aload_n 3, 1) := by decide +kernel
theorem dL_learn_1 : decode cL_learn 1 = .ok (.iconst 0, 1) := by decide +kernel
theorem dL_learn_2 : decode cL_learn 2 = .ok (.aload_n 0, 1) := by decide +kernel
theorem dL_learn_3 : decode cL_learn 3 = .ok (.iload_n 1, 1) := by decide +kernel
theorem dL_learn_4 : decode cL_learn 4 = .ok (.iload_n 2, 1) := by decide +kernel
theorem dL_learn_5 : decode cL_learn 5 = .ok (.invokevirtual 64, 3) := by decide +kernel
theorem dL_learn_8 : decode cL_learn 8 = .ok (.i2l, 1) := by decide +kernel
theorem dL_learn_9 : decode cL_learn 9 = .ok (.lastore, 1) := by decide +kernel
theorem dL_learn_10 : decode cL_learn 10 = .ok (.goto 15, 3) := by decide +kernel
theorem dL_learn_13 : decode cL_learn 13 = .ok (.astore 4, 2) := by decide +kernel
theorem dL_learn_15 : decode cL_learn 15 = .ok (.iconst 1, 1) := by decide +kernel
theorem dL_learn_16 : decode cL_learn 16 = .ok (.ireturn, 1) := by decide +kernel
theorem dL_learn_17 : decode cL_learn 17 = .ok (.astore 4, 2) := by decide +kernel
theorem dL_learn_19 : decode cL_learn 19 = .ok (.iconst 2, 1) := by decide +kernel
theorem dL_learn_20 : decode cL_learn 20 = .ok (.ireturn, 1) := by decide +kernel
theorem dL_learn_21 : decode cL_learn 21 = .ok (.astore 4, 2) := by decide +kernel
theorem dL_learn_23 : decode cL_learn 23 = .ok (.iconst 3, 1) := by decide +kernel
theorem dL_learn_24 : decode cL_learn 24 = .ok (.ireturn, 1) := by decide +kernel
theorem dL_learn_25 : decode cL_learn 25 = .ok (.iconst 0, 1) := by decide +kernel
theorem dL_learn_26 : decode cL_learn 26 = .ok (.ireturn, 1) := by decide +kernel
theorem dL_setOnShift_0 : decode cL_setOnShift 0 = .ok (.aload_n 3, 1) := by decide +kernel
theorem dL_setOnShift_1 : decode cL_setOnShift 1 = .ok (.iconst 0, 1) := by decide +kernel
theorem dL_setOnShift_2 : decode cL_setOnShift 2 = .ok (.aload_n 0, 1) := by decide +kernel
theorem dL_setOnShift_3 : decode cL_setOnShift 3 = .ok (.iload_n 1, 1) := by decide +kernel
theorem dL_setOnShift_4 : decode cL_setOnShift 4 = .ok (.iload_n 2, 1) := by decide +kernel
theorem dL_setOnShift_5 : decode cL_setOnShift 5 = .ok (.invokevirtual 69, 3) := by decide +kernel
theorem dL_setOnShift_8 : decode cL_setOnShift 8 = .ok (.ifCond .eq 7, 3) := by decide +kernel
theorem dL_setOnShift_11 : decode cL_setOnShift 11 = .ok (.lconst 1, 1) := by decide +kernel
theorem dL_setOnShift_12 : decode cL_setOnShift 12 = .ok (.goto 4, 3) := by decide +kernel
theorem dL_setOnShift_15 : decode cL_setOnShift 15 = .ok (.lconst 0, 1) := by decide +kernel
theorem dL_setOnShift_16 : decode cL_setOnShift 16 = .ok (.lastore, 1) := by decide +kernel
theorem dL_setOnShift_17 : decode cL_setOnShift 17 = .ok (.goto 7, 3) := by decide +kernel
theorem dL_setOnShift_20 : decode cL_setOnShift 20 = .ok (.astore 4, 2) := by decide +kernel
theorem dL_setOnShift_22 : decode cL_setOnShift 22 = .ok (.iconst 1, 1) := by decide +kernel
theorem dL_setOnShift_23 : decode cL_setOnShift 23 = .ok (.ireturn, 1) := by decide +kernel
theorem dL_setOnShift_24 : decode cL_setOnShift 24 = .ok (.iconst 0, 1) := by decide +kernel
theorem dL_setOnShift_25 : decode cL_setOnShift 25 = .ok (.ireturn, 1) := by decide +kernel
theorem dL_held_0 : decode cL_held 0 = .ok (.aload_n 2, 1) := by decide +kernel
theorem dL_held_1 : decode cL_held 1 = .ok (.iconst 0, 1) := by decide +kernel
theorem dL_held_2 : decode cL_held 2 = .ok (.aload_n 0, 1) := by decide +kernel
theorem dL_held_3 : decode cL_held 3 = .ok (.iload_n 1, 1) := by decide +kernel
theorem dL_held_4 : decode cL_held 4 = .ok (.invokevirtual 73, 3) := by decide +kernel
theorem dL_held_7 : decode cL_held 7 = .ok (.i2l, 1) := by decide +kernel
theorem dL_held_8 : decode cL_held 8 = .ok (.lastore, 1) := by decide +kernel
theorem dL_held_9 : decode cL_held 9 = .ok (.goto 6, 3) := by decide +kernel
theorem dL_held_12 : decode cL_held 12 = .ok (.astore_n 3, 1) := by decide +kernel
theorem dL_held_13 : decode cL_held 13 = .ok (.iconst 1, 1) := by decide +kernel
theorem dL_held_14 : decode cL_held 14 = .ok (.ireturn, 1) := by decide +kernel
theorem dL_held_15 : decode cL_held 15 = .ok (.iconst 0, 1) := by decide +kernel
theorem dL_held_16 : decode cL_held 16 = .ok (.ireturn, 1) := by decide +kernel
theorem dL_agentOf_0 : decode cL_agentOf 0 = .ok (.aload_n 2, 1) := by decide +kernel
theorem dL_agentOf_1 : decode cL_agentOf 1 = .ok (.iconst 0, 1) := by decide +kernel
theorem dL_agentOf_2 : decode cL_agentOf 2 = .ok (.aload_n 0, 1) := by decide +kernel
theorem dL_agentOf_3 : decode cL_agentOf 3 = .ok (.iload_n 1, 1) := by decide +kernel
theorem dL_agentOf_4 : decode cL_agentOf 4 = .ok (.invokevirtual 76, 3) := by decide +kernel
theorem dL_agentOf_7 : decode cL_agentOf 7 = .ok (.i2l, 1) := by decide +kernel
theorem dL_agentOf_8 : decode cL_agentOf 8 = .ok (.lastore, 1) := by decide +kernel
theorem dL_agentOf_9 : decode cL_agentOf 9 = .ok (.goto 9, 3) := by decide +kernel
theorem dL_agentOf_12 : decode cL_agentOf 12 = .ok (.astore_n 3, 1) := by decide +kernel
theorem dL_agentOf_13 : decode cL_agentOf 13 = .ok (.iconst 1, 1) := by decide +kernel
theorem dL_agentOf_14 : decode cL_agentOf 14 = .ok (.ireturn, 1) := by decide +kernel
theorem dL_agentOf_15 : decode cL_agentOf 15 = .ok (.astore_n 3, 1) := by decide +kernel
theorem dL_agentOf_16 : decode cL_agentOf 16 = .ok (.iconst 2, 1) := by decide +kernel
theorem dL_agentOf_17 : decode cL_agentOf 17 = .ok (.ireturn, 1) := by decide +kernel
theorem dL_agentOf_18 : decode cL_agentOf 18 = .ok (.iconst 0, 1) := by decide +kernel
theorem dL_agentOf_19 : decode cL_agentOf 19 = .ok (.ireturn, 1) := by decide +kernel
theorem dL_nextFor_0 : decode cL_nextFor 0 = .ok (.aload_n 2, 1) := by decide +kernel
theorem dL_nextFor_1 : decode cL_nextFor 1 = .ok (.iconst 0, 1) := by decide +kernel
theorem dL_nextFor_2 : decode cL_nextFor 2 = .ok (.aload_n 0, 1) := by decide +kernel
theorem dL_nextFor_3 : decode cL_nextFor 3 = .ok (.iload_n 1, 1) := by decide +kernel
theorem dL_nextFor_4 : decode cL_nextFor 4 = .ok (.invokevirtual 79, 3) := by decide +kernel
theorem dL_nextFor_7 : decode cL_nextFor 7 = .ok (.i2l, 1) := by decide +kernel
theorem dL_nextFor_8 : decode cL_nextFor 8 = .ok (.lastore, 1) := by decide +kernel
theorem dL_nextFor_9 : decode cL_nextFor 9 = .ok (.goto 9, 3) := by decide +kernel
theorem dL_nextFor_12 : decode cL_nextFor 12 = .ok (.astore_n 3, 1) := by decide +kernel
theorem dL_nextFor_13 : decode cL_nextFor 13 = .ok (.iconst 1, 1) := by decide +kernel
theorem dL_nextFor_14 : decode cL_nextFor 14 = .ok (.ireturn, 1) := by decide +kernel
theorem dL_nextFor_15 : decode cL_nextFor 15 = .ok (.astore_n 3, 1) := by decide +kernel
theorem dL_nextFor_16 : decode cL_nextFor 16 = .ok (.iconst 2, 1) := by decide +kernel
theorem dL_nextFor_17 : decode cL_nextFor 17 = .ok (.ireturn, 1) := by decide +kernel
theorem dL_nextFor_18 : decode cL_nextFor 18 = .ok (.iconst 0, 1) := by decide +kernel
theorem dL_nextFor_19 : decode cL_nextFor 19 = .ok (.ireturn, 1) := by decide +kernel
theorem dL_nextByTickets_0 : decode cL_nextByTickets 0 = .ok (.aload_n 2, 1) := by decide +kernel
theorem dL_nextByTickets_1 : decode cL_nextByTickets 1 = .ok (.iconst 0, 1) := by decide +kernel
theorem dL_nextByTickets_2 : decode cL_nextByTickets 2 = .ok (.aload_n 0, 1) := by decide +kernel
theorem dL_nextByTickets_3 : decode cL_nextByTickets 3 = .ok (.iload_n 1, 1) := by decide +kernel
theorem dL_nextByTickets_4 : decode cL_nextByTickets 4 = .ok (.invokevirtual 82, 3) := by decide +kernel
theorem dL_nextByTickets_7 : decode cL_nextByTickets 7 = .ok (.i2l, 1) := by decide +kernel
theorem dL_nextByTickets_8 : decode cL_nextByTickets 8 = .ok (.lastore, 1) := by decide +kernel
theorem dL_nextByTickets_9 : decode cL_nextByTickets 9 = .ok (.goto 9, 3) := by decide +kernel
theorem dL_nextByTickets_12 : decode cL_nextByTickets 12 = .ok (.astore_n 3, 1) := by decide +kernel
theorem dL_nextByTickets_13 : decode cL_nextByTickets 13 = .ok (.iconst 1, 1) := by decide +kernel
theorem dL_nextByTickets_14 : decode cL_nextByTickets 14 = .ok (.ireturn, 1) := by decide +kernel
theorem dL_nextByTickets_15 : decode cL_nextByTickets 15 = .ok (.astore_n 3, 1) := by decide +kernel
theorem dL_nextByTickets_16 : decode cL_nextByTickets 16 = .ok (.iconst 2, 1) := by decide +kernel
theorem dL_nextByTickets_17 : decode cL_nextByTickets 17 = .ok (.ireturn, 1) := by decide +kernel
theorem dL_nextByTickets_18 : decode cL_nextByTickets 18 = .ok (.iconst 0, 1) := by decide +kernel
theorem dL_nextByTickets_19 : decode cL_nextByTickets 19 = .ok (.ireturn, 1) := by decide +kernel
theorem dL_waiting_0 : decode cL_waiting 0 = .ok (.aload_n 2, 1) := by decide +kernel
theorem dL_waiting_1 : decode cL_waiting 1 = .ok (.iconst 0, 1) := by decide +kernel
theorem dL_waiting_2 : decode cL_waiting 2 = .ok (.aload_n 0, 1) := by decide +kernel
theorem dL_waiting_3 : decode cL_waiting 3 = .ok (.iload_n 1, 1) := by decide +kernel
theorem dL_waiting_4 : decode cL_waiting 4 = .ok (.invokevirtual 85, 3) := by decide +kernel
theorem dL_waiting_7 : decode cL_waiting 7 = .ok (.i2l, 1) := by decide +kernel
theorem dL_waiting_8 : decode cL_waiting 8 = .ok (.lastore, 1) := by decide +kernel
theorem dL_waiting_9 : decode cL_waiting 9 = .ok (.goto 6, 3) := by decide +kernel
theorem dL_waiting_12 : decode cL_waiting 12 = .ok (.astore_n 3, 1) := by decide +kernel
theorem dL_waiting_13 : decode cL_waiting 13 = .ok (.iconst 1, 1) := by decide +kernel
theorem dL_waiting_14 : decode cL_waiting 14 = .ok (.ireturn, 1) := by decide +kernel
theorem dL_waiting_15 : decode cL_waiting 15 = .ok (.iconst 0, 1) := by decide +kernel
theorem dL_waiting_16 : decode cL_waiting 16 = .ok (.ireturn, 1) := by decide +kernel
theorem dL_take_0 : decode cL_take 0 = .ok (.aload_n 2, 1) := by decide +kernel
theorem dL_take_1 : decode cL_take 1 = .ok (.iconst 0, 1) := by decide +kernel
theorem dL_take_2 : decode cL_take 2 = .ok (.aload_n 0, 1) := by decide +kernel
theorem dL_take_3 : decode cL_take 3 = .ok (.iload_n 1, 1) := by decide +kernel
theorem dL_take_4 : decode cL_take 4 = .ok (.invokevirtual 88, 3) := by decide +kernel
theorem dL_take_7 : decode cL_take 7 = .ok (.i2l, 1) := by decide +kernel
theorem dL_take_8 : decode cL_take 8 = .ok (.lastore, 1) := by decide +kernel
theorem dL_take_9 : decode cL_take 9 = .ok (.goto 12, 3) := by decide +kernel
theorem dL_take_12 : decode cL_take 12 = .ok (.astore_n 3, 1) := by decide +kernel
theorem dL_take_13 : decode cL_take 13 = .ok (.iconst 1, 1) := by decide +kernel
theorem dL_take_14 : decode cL_take 14 = .ok (.ireturn, 1) := by decide +kernel
theorem dL_take_15 : decode cL_take 15 = .ok (.astore_n 3, 1) := by decide +kernel
theorem dL_take_16 : decode cL_take 16 = .ok (.iconst 2, 1) := by decide +kernel
theorem dL_take_17 : decode cL_take 17 = .ok (.ireturn, 1) := by decide +kernel
theorem dL_take_18 : decode cL_take 18 = .ok (.astore_n 3, 1) := by decide +kernel
theorem dL_take_19 : decode cL_take 19 = .ok (.iconst 3, 1) := by decide +kernel
theorem dL_take_20 : decode cL_take 20 = .ok (.ireturn, 1) := by decide +kernel
theorem dL_take_21 : decode cL_take 21 = .ok (.iconst 0, 1) := by decide +kernel
theorem dL_take_22 : decode cL_take 22 = .ok (.ireturn, 1) := by decide +kernel
theorem dL_handOver_0 : decode cL_handOver 0 = .ok (.aload_n 3, 1) := by decide +kernel
theorem dL_handOver_1 : decode cL_handOver 1 = .ok (.iconst 0, 1) := by decide +kernel
theorem dL_handOver_2 : decode cL_handOver 2 = .ok (.aload_n 0, 1) := by decide +kernel
theorem dL_handOver_3 : decode cL_handOver 3 = .ok (.iload_n 1, 1) := by decide +kernel
theorem dL_handOver_4 : decode cL_handOver 4 = .ok (.iload_n 2, 1) := by decide +kernel
theorem dL_handOver_5 : decode cL_handOver 5 = .ok (.invokevirtual 91, 3) := by decide +kernel
theorem dL_handOver_8 : decode cL_handOver 8 = .ok (.i2l, 1) := by decide +kernel
theorem dL_handOver_9 : decode cL_handOver 9 = .ok (.lastore, 1) := by decide +kernel
theorem dL_handOver_10 : decode cL_handOver 10 = .ok (.goto 15, 3) := by decide +kernel
theorem dL_handOver_13 : decode cL_handOver 13 = .ok (.astore 4, 2) := by decide +kernel
theorem dL_handOver_15 : decode cL_handOver 15 = .ok (.iconst 1, 1) := by decide +kernel
theorem dL_handOver_16 : decode cL_handOver 16 = .ok (.ireturn, 1) := by decide +kernel
theorem dL_handOver_17 : decode cL_handOver 17 = .ok (.astore 4, 2) := by decide +kernel
theorem dL_handOver_19 : decode cL_handOver 19 = .ok (.iconst 2, 1) := by decide +kernel
theorem dL_handOver_20 : decode cL_handOver 20 = .ok (.ireturn, 1) := by decide +kernel
theorem dL_handOver_21 : decode cL_handOver 21 = .ok (.astore 4, 2) := by decide +kernel
theorem dL_handOver_23 : decode cL_handOver 23 = .ok (.iconst 3, 1) := by decide +kernel
theorem dL_handOver_24 : decode cL_handOver 24 = .ok (.ireturn, 1) := by decide +kernel
theorem dL_handOver_25 : decode cL_handOver 25 = .ok (.iconst 0, 1) := by decide +kernel
theorem dL_handOver_26 : decode cL_handOver 26 = .ok (.ireturn, 1) := by decide +kernel
theorem dL_giveBack_0 : decode cL_giveBack 0 = .ok (.aload_n 2, 1) := by decide +kernel
theorem dL_giveBack_1 : decode cL_giveBack 1 = .ok (.iconst 0, 1) := by decide +kernel
theorem dL_giveBack_2 : decode cL_giveBack 2 = .ok (.aload_n 0, 1) := by decide +kernel
theorem dL_giveBack_3 : decode cL_giveBack 3 = .ok (.iload_n 1, 1) := by decide +kernel
theorem dL_giveBack_4 : decode cL_giveBack 4 = .ok (.invokevirtual 94, 3) := by decide +kernel
theorem dL_giveBack_7 : decode cL_giveBack 7 = .ok (.i2l, 1) := by decide +kernel
theorem dL_giveBack_8 : decode cL_giveBack 8 = .ok (.lastore, 1) := by decide +kernel
theorem dL_giveBack_9 : decode cL_giveBack 9 = .ok (.goto 9, 3) := by decide +kernel
theorem dL_giveBack_12 : decode cL_giveBack 12 = .ok (.astore_n 3, 1) := by decide +kernel
theorem dL_giveBack_13 : decode cL_giveBack 13 = .ok (.iconst 1, 1) := by decide +kernel
theorem dL_giveBack_14 : decode cL_giveBack 14 = .ok (.ireturn, 1) := by decide +kernel
theorem dL_giveBack_15 : decode cL_giveBack 15 = .ok (.astore_n 3, 1) := by decide +kernel
theorem dL_giveBack_16 : decode cL_giveBack 16 = .ok (.iconst 2, 1) := by decide +kernel
theorem dL_giveBack_17 : decode cL_giveBack 17 = .ok (.ireturn, 1) := by decide +kernel
theorem dL_giveBack_18 : decode cL_giveBack 18 = .ok (.iconst 0, 1) := by decide +kernel
theorem dL_giveBack_19 : decode cL_giveBack 19 = .ok (.ireturn, 1) := by decide +kernel
theorem dL_hold_0 : decode cL_hold 0 = .ok (.aload_n 2, 1) := by decide +kernel
theorem dL_hold_1 : decode cL_hold 1 = .ok (.iconst 0, 1) := by decide +kernel
theorem dL_hold_2 : decode cL_hold 2 = .ok (.aload_n 0, 1) := by decide +kernel
theorem dL_hold_3 : decode cL_hold 3 = .ok (.iload_n 1, 1) := by decide +kernel
theorem dL_hold_4 : decode cL_hold 4 = .ok (.invokevirtual 97, 3) := by decide +kernel
theorem dL_hold_7 : decode cL_hold 7 = .ok (.i2l, 1) := by decide +kernel
theorem dL_hold_8 : decode cL_hold 8 = .ok (.lastore, 1) := by decide +kernel
theorem dL_hold_9 : decode cL_hold 9 = .ok (.goto 9, 3) := by decide +kernel
theorem dL_hold_12 : decode cL_hold 12 = .ok (.astore_n 3, 1) := by decide +kernel
theorem dL_hold_13 : decode cL_hold 13 = .ok (.iconst 1, 1) := by decide +kernel
theorem dL_hold_14 : decode cL_hold 14 = .ok (.ireturn, 1) := by decide +kernel
theorem dL_hold_15 : decode cL_hold 15 = .ok (.astore_n 3, 1) := by decide +kernel
theorem dL_hold_16 : decode cL_hold 16 = .ok (.iconst 2, 1) := by decide +kernel
theorem dL_hold_17 : decode cL_hold 17 = .ok (.ireturn, 1) := by decide +kernel
theorem dL_hold_18 : decode cL_hold 18 = .ok (.iconst 0, 1) := by decide +kernel
theorem dL_hold_19 : decode cL_hold 19 = .ok (.ireturn, 1) := by decide +kernel
theorem dL_resume_0 : decode cL_resume 0 = .ok (.aload_n 2, 1) := by decide +kernel
theorem dL_resume_1 : decode cL_resume 1 = .ok (.iconst 0, 1) := by decide +kernel
theorem dL_resume_2 : decode cL_resume 2 = .ok (.aload_n 0, 1) := by decide +kernel
theorem dL_resume_3 : decode cL_resume 3 = .ok (.iload_n 1, 1) := by decide +kernel
theorem dL_resume_4 : decode cL_resume 4 = .ok (.invokevirtual 100, 3) := by decide +kernel
theorem dL_resume_7 : decode cL_resume 7 = .ok (.i2l, 1) := by decide +kernel
theorem dL_resume_8 : decode cL_resume 8 = .ok (.lastore, 1) := by decide +kernel
theorem dL_resume_9 : decode cL_resume 9 = .ok (.goto 9, 3) := by decide +kernel
theorem dL_resume_12 : decode cL_resume 12 = .ok (.astore_n 3, 1) := by decide +kernel
theorem dL_resume_13 : decode cL_resume 13 = .ok (.iconst 1, 1) := by decide +kernel
theorem dL_resume_14 : decode cL_resume 14 = .ok (.ireturn, 1) := by decide +kernel
theorem dL_resume_15 : decode cL_resume 15 = .ok (.astore_n 3, 1) := by decide +kernel
theorem dL_resume_16 : decode cL_resume 16 = .ok (.iconst 2, 1) := by decide +kernel
theorem dL_resume_17 : decode cL_resume 17 = .ok (.ireturn, 1) := by decide +kernel
theorem dL_resume_18 : decode cL_resume 18 = .ok (.iconst 0, 1) := by decide +kernel
theorem dL_resume_19 : decode cL_resume 19 = .ok (.ireturn, 1) := by decide +kernel
theorem dL_answer_0 : decode cL_answer 0 = .ok (.aload_n 3, 1) := by decide +kernel
theorem dL_answer_1 : decode cL_answer 1 = .ok (.iconst 0, 1) := by decide +kernel
theorem dL_answer_2 : decode cL_answer 2 = .ok (.aload_n 0, 1) := by decide +kernel
theorem dL_answer_3 : decode cL_answer 3 = .ok (.iload_n 1, 1) := by decide +kernel
theorem dL_answer_4 : decode cL_answer 4 = .ok (.iload_n 2, 1) := by decide +kernel
theorem dL_answer_5 : decode cL_answer 5 = .ok (.invokevirtual 103, 3) := by decide +kernel
theorem dL_answer_8 : decode cL_answer 8 = .ok (.i2l, 1) := by decide +kernel
theorem dL_answer_9 : decode cL_answer 9 = .ok (.lastore, 1) := by decide +kernel
theorem dL_answer_10 : decode cL_answer 10 = .ok (.goto 15, 3) := by decide +kernel
theorem dL_answer_13 : decode cL_answer 13 = .ok (.astore 4, 2) := by decide +kernel
theorem dL_answer_15 : decode cL_answer 15 = .ok (.iconst 1, 1) := by decide +kernel
theorem dL_answer_16 : decode cL_answer 16 = .ok (.ireturn, 1) := by decide +kernel
theorem dL_answer_17 : decode cL_answer 17 = .ok (.astore 4, 2) := by decide +kernel
theorem dL_answer_19 : decode cL_answer 19 = .ok (.iconst 2, 1) := by decide +kernel
theorem dL_answer_20 : decode cL_answer 20 = .ok (.ireturn, 1) := by decide +kernel
theorem dL_answer_21 : decode cL_answer 21 = .ok (.astore 4, 2) := by decide +kernel
theorem dL_answer_23 : decode cL_answer 23 = .ok (.iconst 3, 1) := by decide +kernel
theorem dL_answer_24 : decode cL_answer 24 = .ok (.ireturn, 1) := by decide +kernel
theorem dL_answer_25 : decode cL_answer 25 = .ok (.iconst 0, 1) := by decide +kernel
theorem dL_answer_26 : decode cL_answer 26 = .ok (.ireturn, 1) := by decide +kernel
theorem dL_close_0 : decode cL_close 0 = .ok (.aload_n 2, 1) := by decide +kernel
theorem dL_close_1 : decode cL_close 1 = .ok (.iconst 0, 1) := by decide +kernel
theorem dL_close_2 : decode cL_close 2 = .ok (.aload_n 0, 1) := by decide +kernel
theorem dL_close_3 : decode cL_close 3 = .ok (.iload_n 1, 1) := by decide +kernel
theorem dL_close_4 : decode cL_close 4 = .ok (.invokevirtual 106, 3) := by decide +kernel
theorem dL_close_7 : decode cL_close 7 = .ok (.i2l, 1) := by decide +kernel
theorem dL_close_8 : decode cL_close 8 = .ok (.lastore, 1) := by decide +kernel
theorem dL_close_9 : decode cL_close 9 = .ok (.goto 9, 3) := by decide +kernel
theorem dL_close_12 : decode cL_close 12 = .ok (.astore_n 3, 1) := by decide +kernel
theorem dL_close_13 : decode cL_close 13 = .ok (.iconst 1, 1) := by decide +kernel
theorem dL_close_14 : decode cL_close 14 = .ok (.ireturn, 1) := by decide +kernel
theorem dL_close_15 : decode cL_close 15 = .ok (.astore_n 3, 1) := by decide +kernel
theorem dL_close_16 : decode cL_close 16 = .ok (.iconst 2, 1) := by decide +kernel
theorem dL_close_17 : decode cL_close 17 = .ok (.ireturn, 1) := by decide +kernel
theorem dL_close_18 : decode cL_close 18 = .ok (.iconst 0, 1) := by decide +kernel
theorem dL_close_19 : decode cL_close 19 = .ok (.ireturn, 1) := by decide +kernel
theorem dL_merge_0 : decode cL_merge 0 = .ok (.aload_n 3, 1) := by decide +kernel
theorem dL_merge_1 : decode cL_merge 1 = .ok (.iconst 0, 1) := by decide +kernel
theorem dL_merge_2 : decode cL_merge 2 = .ok (.aload_n 0, 1) := by decide +kernel
theorem dL_merge_3 : decode cL_merge 3 = .ok (.iload_n 1, 1) := by decide +kernel
theorem dL_merge_4 : decode cL_merge 4 = .ok (.iload_n 2, 1) := by decide +kernel
theorem dL_merge_5 : decode cL_merge 5 = .ok (.invokevirtual 109, 3) := by decide +kernel
theorem dL_merge_8 : decode cL_merge 8 = .ok (.i2l, 1) := by decide +kernel
theorem dL_merge_9 : decode cL_merge 9 = .ok (.lastore, 1) := by decide +kernel
theorem dL_merge_10 : decode cL_merge 10 = .ok (.goto 19, 3) := by decide +kernel
theorem dL_merge_13 : decode cL_merge 13 = .ok (.astore 4, 2) := by decide +kernel
theorem dL_merge_15 : decode cL_merge 15 = .ok (.iconst 1, 1) := by decide +kernel
theorem dL_merge_16 : decode cL_merge 16 = .ok (.ireturn, 1) := by decide +kernel
theorem dL_merge_17 : decode cL_merge 17 = .ok (.astore 4, 2) := by decide +kernel
theorem dL_merge_19 : decode cL_merge 19 = .ok (.iconst 2, 1) := by decide +kernel
theorem dL_merge_20 : decode cL_merge 20 = .ok (.ireturn, 1) := by decide +kernel
theorem dL_merge_21 : decode cL_merge 21 = .ok (.astore 4, 2) := by decide +kernel
theorem dL_merge_23 : decode cL_merge 23 = .ok (.iconst 3, 1) := by decide +kernel
theorem dL_merge_24 : decode cL_merge 24 = .ok (.ireturn, 1) := by decide +kernel
theorem dL_merge_25 : decode cL_merge 25 = .ok (.astore 4, 2) := by decide +kernel
theorem dL_merge_27 : decode cL_merge 27 = .ok (.iconst 4, 1) := by decide +kernel
theorem dL_merge_28 : decode cL_merge 28 = .ok (.ireturn, 1) := by decide +kernel
theorem dL_merge_29 : decode cL_merge 29 = .ok (.iconst 0, 1) := by decide +kernel
theorem dL_merge_30 : decode cL_merge 30 = .ok (.ireturn, 1) := by decide +kernel
theorem dL_addAnswer_0 : decode cL_addAnswer 0 = .ok (.aload_n 2, 1) := by decide +kernel
theorem dL_addAnswer_1 : decode cL_addAnswer 1 = .ok (.iconst 0, 1) := by decide +kernel
theorem dL_addAnswer_2 : decode cL_addAnswer 2 = .ok (.aload_n 0, 1) := by decide +kernel
theorem dL_addAnswer_3 : decode cL_addAnswer 3 = .ok (.iload_n 1, 1) := by decide +kernel
theorem dL_addAnswer_4 : decode cL_addAnswer 4 = .ok (.invokevirtual 112, 3) := by decide +kernel
theorem dL_addAnswer_7 : decode cL_addAnswer 7 = .ok (.i2l, 1) := by decide +kernel
theorem dL_addAnswer_8 : decode cL_addAnswer 8 = .ok (.lastore, 1) := by decide +kernel
theorem dL_addAnswer_9 : decode cL_addAnswer 9 = .ok (.goto 9, 3) := by decide +kernel
theorem dL_addAnswer_12 : decode cL_addAnswer 12 = .ok (.astore_n 3, 1) := by decide +kernel
theorem dL_addAnswer_13 : decode cL_addAnswer 13 = .ok (.iconst 1, 1) := by decide +kernel
theorem dL_addAnswer_14 : decode cL_addAnswer 14 = .ok (.ireturn, 1) := by decide +kernel
theorem dL_addAnswer_15 : decode cL_addAnswer 15 = .ok (.astore_n 3, 1) := by decide +kernel
theorem dL_addAnswer_16 : decode cL_addAnswer 16 = .ok (.iconst 2, 1) := by decide +kernel
theorem dL_addAnswer_17 : decode cL_addAnswer 17 = .ok (.ireturn, 1) := by decide +kernel
theorem dL_addAnswer_18 : decode cL_addAnswer 18 = .ok (.iconst 0, 1) := by decide +kernel
theorem dL_addAnswer_19 : decode cL_addAnswer 19 = .ok (.ireturn, 1) := by decide +kernel
theorem dL_weight_0 : decode cL_weight 0 = .ok (.aload_n 3, 1) := by decide +kernel
theorem dL_weight_1 : decode cL_weight 1 = .ok (.iconst 0, 1) := by decide +kernel
theorem dL_weight_2 : decode cL_weight 2 = .ok (.aload_n 0, 1) := by decide +kernel
theorem dL_weight_3 : decode cL_weight 3 = .ok (.iload_n 1, 1) := by decide +kernel
theorem dL_weight_4 : decode cL_weight 4 = .ok (.iload_n 2, 1) := by decide +kernel
theorem dL_weight_5 : decode cL_weight 5 = .ok (.invokevirtual 115, 3) := by decide +kernel
theorem dL_weight_8 : decode cL_weight 8 = .ok (.i2l, 1) := by decide +kernel
theorem dL_weight_9 : decode cL_weight 9 = .ok (.lastore, 1) := by decide +kernel
theorem dL_weight_10 : decode cL_weight 10 = .ok (.goto 11, 3) := by decide +kernel
theorem dL_weight_13 : decode cL_weight 13 = .ok (.astore 4, 2) := by decide +kernel
theorem dL_weight_15 : decode cL_weight 15 = .ok (.iconst 1, 1) := by decide +kernel
theorem dL_weight_16 : decode cL_weight 16 = .ok (.ireturn, 1) := by decide +kernel
theorem dL_weight_17 : decode cL_weight 17 = .ok (.astore 4, 2) := by decide +kernel
theorem dL_weight_19 : decode cL_weight 19 = .ok (.iconst 2, 1) := by decide +kernel
theorem dL_weight_20 : decode cL_weight 20 = .ok (.ireturn, 1) := by decide +kernel
theorem dL_weight_21 : decode cL_weight 21 = .ok (.iconst 0, 1) := by decide +kernel
theorem dL_weight_22 : decode cL_weight 22 = .ok (.ireturn, 1) := by decide +kernel
theorem dL_suggestion_0 : decode cL_suggestion 0 = .ok (.aload_n 2, 1) := by decide +kernel
theorem dL_suggestion_1 : decode cL_suggestion 1 = .ok (.iconst 0, 1) := by decide +kernel
theorem dL_suggestion_2 : decode cL_suggestion 2 = .ok (.aload_n 0, 1) := by decide +kernel
theorem dL_suggestion_3 : decode cL_suggestion 3 = .ok (.iload_n 1, 1) := by decide +kernel
theorem dL_suggestion_4 : decode cL_suggestion 4 = .ok (.invokevirtual 118, 3) := by decide +kernel
theorem dL_suggestion_7 : decode cL_suggestion 7 = .ok (.i2l, 1) := by decide +kernel
theorem dL_suggestion_8 : decode cL_suggestion 8 = .ok (.lastore, 1) := by decide +kernel
theorem dL_suggestion_9 : decode cL_suggestion 9 = .ok (.goto 9, 3) := by decide +kernel
theorem dL_suggestion_12 : decode cL_suggestion 12 = .ok (.astore_n 3, 1) := by decide +kernel
theorem dL_suggestion_13 : decode cL_suggestion 13 = .ok (.iconst 1, 1) := by decide +kernel
theorem dL_suggestion_14 : decode cL_suggestion 14 = .ok (.ireturn, 1) := by decide +kernel
theorem dL_suggestion_15 : decode cL_suggestion 15 = .ok (.astore_n 3, 1) := by decide +kernel
theorem dL_suggestion_16 : decode cL_suggestion 16 = .ok (.iconst 2, 1) := by decide +kernel
theorem dL_suggestion_17 : decode cL_suggestion 17 = .ok (.ireturn, 1) := by decide +kernel
theorem dL_suggestion_18 : decode cL_suggestion 18 = .ok (.iconst 0, 1) := by decide +kernel
theorem dL_suggestion_19 : decode cL_suggestion 19 = .ok (.ireturn, 1) := by decide +kernel
theorem dL_suggestionByWords_0 : decode cL_suggestionByWords 0 = .ok (.aload_n 2, 1) := by decide +kernel
theorem dL_suggestionByWords_1 : decode cL_suggestionByWords 1 = .ok (.iconst 0, 1) := by decide +kernel
theorem dL_suggestionByWords_2 : decode cL_suggestionByWords 2 = .ok (.aload_n 0, 1) := by decide +kernel
theorem dL_suggestionByWords_3 : decode cL_suggestionByWords 3 = .ok (.iload_n 1, 1) := by decide +kernel
theorem dL_suggestionByWords_4 : decode cL_suggestionByWords 4 = .ok (.invokevirtual 121, 3) := by decide +kernel
theorem dL_suggestionByWords_7 : decode cL_suggestionByWords 7 = .ok (.i2l, 1) := by decide +kernel
theorem dL_suggestionByWords_8 : decode cL_suggestionByWords 8 = .ok (.lastore, 1) := by decide +kernel
theorem dL_suggestionByWords_9 : decode cL_suggestionByWords 9 = .ok (.goto 9, 3) := by decide +kernel
theorem dL_suggestionByWords_12 : decode cL_suggestionByWords 12 = .ok (.astore_n 3, 1) := by decide +kernel
theorem dL_suggestionByWords_13 : decode cL_suggestionByWords 13 = .ok (.iconst 1, 1) := by decide +kernel
theorem dL_suggestionByWords_14 : decode cL_suggestionByWords 14 = .ok (.ireturn, 1) := by decide +kernel
theorem dL_suggestionByWords_15 : decode cL_suggestionByWords 15 = .ok (.astore_n 3, 1) := by decide +kernel
theorem dL_suggestionByWords_16 : decode cL_suggestionByWords 16 = .ok (.iconst 2, 1) := by decide +kernel
theorem dL_suggestionByWords_17 : decode cL_suggestionByWords 17 = .ok (.ireturn, 1) := by decide +kernel
theorem dL_suggestionByWords_18 : decode cL_suggestionByWords 18 = .ok (.iconst 0, 1) := by decide +kernel
theorem dL_suggestionByWords_19 : decode cL_suggestionByWords 19 = .ok (.ireturn, 1) := by decide +kernel
theorem dL_keptShare_0 : decode cL_keptShare 0 = .ok (.aload_n 1, 1) := by decide +kernel
theorem dL_keptShare_1 : decode cL_keptShare 1 = .ok (.iconst 0, 1) := by decide +kernel
theorem dL_keptShare_2 : decode cL_keptShare 2 = .ok (.aload_n 0, 1) := by decide +kernel
theorem dL_keptShare_3 : decode cL_keptShare 3 = .ok (.invokevirtual 124, 3) := by decide +kernel
theorem dL_keptShare_6 : decode cL_keptShare 6 = .ok (.f2d, 1) := by decide +kernel
theorem dL_keptShare_7 : decode cL_keptShare 7 = .ok (.dastore, 1) := by decide +kernel
theorem dL_keptShare_8 : decode cL_keptShare 8 = .ok (.goto 6, 3) := by decide +kernel
theorem dL_keptShare_11 : decode cL_keptShare 11 = .ok (.astore_n 2, 1) := by decide +kernel
theorem dL_keptShare_12 : decode cL_keptShare 12 = .ok (.iconst 1, 1) := by decide +kernel
theorem dL_keptShare_13 : decode cL_keptShare 13 = .ok (.ireturn, 1) := by decide +kernel
theorem dL_keptShare_14 : decode cL_keptShare 14 = .ok (.iconst 0, 1) := by decide +kernel
theorem dL_keptShare_15 : decode cL_keptShare 15 = .ok (.ireturn, 1) := by decide +kernel
theorem dL_meanClock_0 : decode cL_meanClock 0 = .ok (.aload_n 1, 1) := by decide +kernel
theorem dL_meanClock_1 : decode cL_meanClock 1 = .ok (.iconst 0, 1) := by decide +kernel
theorem dL_meanClock_2 : decode cL_meanClock 2 = .ok (.aload_n 0, 1) := by decide +kernel
theorem dL_meanClock_3 : decode cL_meanClock 3 = .ok (.invokevirtual 130, 3) := by decide +kernel
theorem dL_meanClock_6 : decode cL_meanClock 6 = .ok (.dastore, 1) := by decide +kernel
theorem dL_meanClock_7 : decode cL_meanClock 7 = .ok (.goto 6, 3) := by decide +kernel
theorem dL_meanClock_10 : decode cL_meanClock 10 = .ok (.astore_n 2, 1) := by decide +kernel
theorem dL_meanClock_11 : decode cL_meanClock 11 = .ok (.iconst 1, 1) := by decide +kernel
theorem dL_meanClock_12 : decode cL_meanClock 12 = .ok (.ireturn, 1) := by decide +kernel
theorem dL_meanClock_13 : decode cL_meanClock 13 = .ok (.iconst 0, 1) := by decide +kernel
theorem dL_meanClock_14 : decode cL_meanClock 14 = .ok (.ireturn, 1) := by decide +kernel
theorem dL_law_0 : decode cL_law 0 = .ok (.new 8, 3) := by decide +kernel
theorem dL_law_3 : decode cL_law 3 = .ok (.dup, 1) := by decide +kernel
theorem dL_law_4 : decode cL_law 4 = .ok (.invokespecial 134, 3) := by decide +kernel
theorem dL_law_7 : decode cL_law 7 = .ok (.astore_n 1, 1) := by decide +kernel
theorem dL_law_8 : decode cL_law 8 = .ok (.new 135, 3) := by decide +kernel
theorem dL_law_11 : decode cL_law 11 = .ok (.dup, 1) := by decide +kernel
theorem dL_law_12 : decode cL_law 12 = .ok (.invokespecial 137, 3) := by decide +kernel
theorem dL_law_15 : decode cL_law 15 = .ok (.astore_n 2, 1) := by decide +kernel
theorem dL_law_16 : decode cL_law 16 = .ok (.iconst 1, 1) := by decide +kernel
theorem dL_law_17 : decode cL_law 17 = .ok (.newarray .long, 2) := by decide +kernel
theorem dL_law_19 : decode cL_law 19 = .ok (.astore_n 3, 1) := by decide +kernel
theorem dL_law_20 : decode cL_law 20 = .ok (.iconst 1, 1) := by decide +kernel
theorem dL_law_21 : decode cL_law 21 = .ok (.newarray .double, 2) := by decide +kernel
theorem dL_law_23 : decode cL_law 23 = .ok (.astore 4, 2) := by decide +kernel
theorem dL_law_25 : decode cL_law 25 = .ok (.iconst 0, 1) := by decide +kernel
theorem dL_law_26 : decode cL_law 26 = .ok (.istore 5, 2) := by decide +kernel
theorem dL_law_28 : decode cL_law 28 = .ok (.iload 5, 2) := by decide +kernel
theorem dL_law_30 : decode cL_law 30 = .ok (.aload_n 0, 1) := by decide +kernel
theorem dL_law_31 : decode cL_law 31 = .ok (.arraylength, 1) := by decide +kernel
theorem dL_law_32 : decode cL_law 32 = .ok (.bipush 6, 2) := by decide +kernel
theorem dL_law_34 : decode cL_law 34 = .ok (.isub, 1) := by decide +kernel
theorem dL_law_35 : decode cL_law 35 = .ok (.if_icmp .gt 2468, 3) := by decide +kernel
theorem dL_law_38 : decode cL_law 38 = .ok (.aload_n 0, 1) := by decide +kernel
theorem dL_law_39 : decode cL_law 39 = .ok (.iload 5, 2) := by decide +kernel
theorem dL_law_41 : decode cL_law 41 = .ok (.iaload, 1) := by decide +kernel
theorem dL_law_42 : decode cL_law 42 = .ok (.bipush 63, 2) := by decide +kernel
theorem dL_law_44 : decode cL_law 44 = .ok (.iand, 1) := by decide +kernel
theorem dL_law_45 : decode cL_law 45 = .ok (.tableswitch 2452 0 41 #[183, 239, 252, 320, 388, 492, 548, 561, 617, 685, 698, 754, 810, 878, 934, 990, 1053, 1109, 1177, 1268, 1324, 1380, 1436, 1492, 1548, 1604, 1672, 1728, 1784, 1840, 1908, 1964, 2032, 2088, 2156, 2212, 2268, 2281, 2294, 2308, 2374, 2439], 183) := by decide +kernel
theorem dL_law_228 : decode cL_law 228 = .ok (.aload_n 1, 1) := by decide +kernel
theorem dL_law_229 : decode cL_law 229 = .ok (.aload_n 0, 1) := by decide +kernel
theorem dL_law_230 : decode cL_law 230 = .ok (.iload 5, 2) := by decide +kernel
theorem dL_law_232 : decode cL_law 232 = .ok (.iconst 1, 1) := by decide +kernel
theorem dL_law_233 : decode cL_law 233 = .ok (.iadd, 1) := by decide +kernel
theorem dL_law_234 : decode cL_law 234 = .ok (.iaload, 1) := by decide +kernel
theorem dL_law_235 : decode cL_law 235 = .ok (.aload_n 3, 1) := by decide +kernel
theorem dL_law_236 : decode cL_law 236 = .ok (.invokestatic 138, 3) := by decide +kernel
theorem dL_law_239 : decode cL_law 239 = .ok (.istore 6, 2) := by decide +kernel
theorem dL_law_241 : decode cL_law 241 = .ok (.aload_n 2, 1) := by decide +kernel
theorem dL_law_242 : decode cL_law 242 = .ok (.aload_n 0, 1) := by decide +kernel
theorem dL_law_243 : decode cL_law 243 = .ok (.iload 5, 2) := by decide +kernel
theorem dL_law_245 : decode cL_law 245 = .ok (.iconst 1, 1) := by decide +kernel
theorem dL_law_246 : decode cL_law 246 = .ok (.iadd, 1) := by decide +kernel
theorem dL_law_247 : decode cL_law 247 = .ok (.iaload, 1) := by decide +kernel
theorem dL_law_248 : decode cL_law 248 = .ok (.invokevirtual 143, 3) := by decide +kernel
theorem dL_law_251 : decode cL_law 251 = .ok (.istore 7, 2) := by decide +kernel
theorem dL_law_253 : decode cL_law 253 = .ok (.aload_n 2, 1) := by decide +kernel
theorem dL_law_254 : decode cL_law 254 = .ok (.invokevirtual 144, 3) := by decide +kernel
theorem dL_law_257 : decode cL_law 257 = .ok (.iload 6, 2) := by decide +kernel
theorem dL_law_259 : decode cL_law 259 = .ok (.if_icmp .eq 5, 3) := by decide +kernel
theorem dL_law_262 : decode cL_law 262 = .ok (.iconst 0, 1) := by decide +kernel
theorem dL_law_263 : decode cL_law 263 = .ok (.ireturn, 1) := by decide +kernel
theorem dL_law_264 : decode cL_law 264 = .ok (.iload 6, 2) := by decide +kernel
theorem dL_law_266 : decode cL_law 266 = .ok (.ifCond .ne 15, 3) := by decide +kernel
theorem dL_law_269 : decode cL_law 269 = .ok (.aload_n 3, 1) := by decide +kernel
theorem dL_law_270 : decode cL_law 270 = .ok (.iconst 0, 1) := by decide +kernel
theorem dL_law_271 : decode cL_law 271 = .ok (.laload, 1) := by decide +kernel
theorem dL_law_272 : decode cL_law 272 = .ok (.iload 7, 2) := by decide +kernel
theorem dL_law_274 : decode cL_law 274 = .ok (.i2l, 1) := by decide +kernel
theorem dL_law_275 : decode cL_law 275 = .ok (.lcmp, 1) := by decide +kernel
theorem dL_law_276 : decode cL_law 276 = .ok (.ifCond .eq 5, 3) := by decide +kernel
theorem dL_law_279 : decode cL_law 279 = .ok (.iconst 0, 1) := by decide +kernel
theorem dL_law_280 : decode cL_law 280 = .ok (.ireturn, 1) := by decide +kernel
theorem dL_law_281 : decode cL_law 281 = .ok (.goto 2216, 3) := by decide +kernel
theorem dL_law_284 : decode cL_law 284 = .ok (.aload_n 1, 1) := by decide +kernel
theorem dL_law_285 : decode cL_law 285 = .ok (.invokevirtual 148, 3) := by decide +kernel
theorem dL_law_288 : decode cL_law 288 = .ok (.aload_n 2, 1) := by decide +kernel
theorem dL_law_289 : decode cL_law 289 = .ok (.invokevirtual 151, 3) := by decide +kernel
theorem dL_law_292 : decode cL_law 292 = .ok (.if_icmp .eq 2205, 3) := by decide +kernel
theorem dL_law_295 : decode cL_law 295 = .ok (.iconst 0, 1) := by decide +kernel
theorem dL_law_296 : decode cL_law 296 = .ok (.ireturn, 1) := by decide +kernel
theorem dL_law_297 : decode cL_law 297 = .ok (.aload_n 1, 1) := by decide +kernel
theorem dL_law_298 : decode cL_law 298 = .ok (.aload_n 0, 1) := by decide +kernel
theorem dL_law_299 : decode cL_law 299 = .ok (.iload 5, 2) := by decide +kernel
theorem dL_law_301 : decode cL_law 301 = .ok (.iconst 1, 1) := by decide +kernel
theorem dL_law_302 : decode cL_law 302 = .ok (.iadd, 1) := by decide +kernel
theorem dL_law_303 : decode cL_law 303 = .ok (.iaload, 1) := by decide +kernel
theorem dL_law_304 : decode cL_law 304 = .ok (.aload_n 0, 1) := by decide +kernel
theorem dL_law_305 : decode cL_law 305 = .ok (.iload 5, 2) := by decide +kernel
theorem dL_law_307 : decode cL_law 307 = .ok (.iconst 2, 1) := by decide +kernel
theorem dL_law_308 : decode cL_law 308 = .ok (.iadd, 1) := by decide +kernel
theorem dL_law_309 : decode cL_law 309 = .ok (.iaload, 1) := by decide +kernel
theorem dL_law_310 : decode cL_law 310 = .ok (.aload_n 3, 1) := by decide +kernel
theorem dL_law_311 : decode cL_law 311 = .ok (.invokestatic 152, 3) := by decide +kernel
theorem dL_law_314 : decode cL_law 314 = .ok (.istore 6, 2) := by decide +kernel
theorem dL_law_316 : decode cL_law 316 = .ok (.aload_n 2, 1) := by decide +kernel
theorem dL_law_317 : decode cL_law 317 = .ok (.aload_n 0, 1) := by decide +kernel
theorem dL_law_318 : decode cL_law 318 = .ok (.iload 5, 2) := by decide +kernel
theorem dL_law_320 : decode cL_law 320 = .ok (.iconst 1, 1) := by decide +kernel
theorem dL_law_321 : decode cL_law 321 = .ok (.iadd, 1) := by decide +kernel
theorem dL_law_322 : decode cL_law 322 = .ok (.iaload, 1) := by decide +kernel
theorem dL_law_323 : decode cL_law 323 = .ok (.aload_n 0, 1) := by decide +kernel
theorem dL_law_324 : decode cL_law 324 = .ok (.iload 5, 2) := by decide +kernel
theorem dL_law_326 : decode cL_law 326 = .ok (.iconst 2, 1) := by decide +kernel
theorem dL_law_327 : decode cL_law 327 = .ok (.iadd, 1) := by decide +kernel
theorem dL_law_328 : decode cL_law 328 = .ok (.iaload, 1) := by decide +kernel
theorem dL_law_329 : decode cL_law 329 = .ok (.invokevirtual 155, 3) := by decide +kernel
theorem dL_law_332 : decode cL_law 332 = .ok (.istore 7, 2) := by decide +kernel
theorem dL_law_334 : decode cL_law 334 = .ok (.aload_n 2, 1) := by decide +kernel
theorem dL_law_335 : decode cL_law 335 = .ok (.invokevirtual 144, 3) := by decide +kernel
theorem dL_law_338 : decode cL_law 338 = .ok (.iload 6, 2) := by decide +kernel
theorem dL_law_340 : decode cL_law 340 = .ok (.if_icmp .eq 5, 3) := by decide +kernel
theorem dL_law_343 : decode cL_law 343 = .ok (.iconst 0, 1) := by decide +kernel
theorem dL_law_344 : decode cL_law 344 = .ok (.ireturn, 1) := by decide +kernel
theorem dL_law_345 : decode cL_law 345 = .ok (.iload 6, 2) := by decide +kernel
theorem dL_law_347 : decode cL_law 347 = .ok (.ifCond .ne 15, 3) := by decide +kernel
theorem dL_law_350 : decode cL_law 350 = .ok (.aload_n 3, 1) := by decide +kernel
theorem dL_law_351 : decode cL_law 351 = .ok (.iconst 0, 1) := by decide +kernel
theorem dL_law_352 : decode cL_law 352 = .ok (.laload, 1) := by decide +kernel
theorem dL_law_353 : decode cL_law 353 = .ok (.iload 7, 2) := by decide +kernel
theorem dL_law_355 : decode cL_law 355 = .ok (.i2l, 1) := by decide +kernel
theorem dL_law_356 : decode cL_law 356 = .ok (.lcmp, 1) := by decide +kernel
theorem dL_law_357 : decode cL_law 357 = .ok (.ifCond .eq 5, 3) := by decide +kernel
theorem dL_law_360 : decode cL_law 360 = .ok (.iconst 0, 1) := by decide +kernel
theorem dL_law_361 : decode cL_law 361 = .ok (.ireturn, 1) := by decide +kernel
theorem dL_law_362 : decode cL_law 362 = .ok (.goto 2135, 3) := by decide +kernel
theorem dL_law_365 : decode cL_law 365 = .ok (.aload_n 1, 1) := by decide +kernel
theorem dL_law_366 : decode cL_law 366 = .ok (.aload_n 0, 1) := by decide +kernel
theorem dL_law_367 : decode cL_law 367 = .ok (.iload 5, 2) := by decide +kernel
theorem dL_law_369 : decode cL_law 369 = .ok (.iconst 1, 1) := by decide +kernel
theorem dL_law_370 : decode cL_law 370 = .ok (.iadd, 1) := by decide +kernel
theorem dL_law_371 : decode cL_law 371 = .ok (.iaload, 1) := by decide +kernel
theorem dL_law_372 : decode cL_law 372 = .ok (.aload_n 0, 1) := by decide +kernel
theorem dL_law_373 : decode cL_law 373 = .ok (.iload 5, 2) := by decide +kernel
theorem dL_law_375 : decode cL_law 375 = .ok (.iconst 2, 1) := by decide +kernel
theorem dL_law_376 : decode cL_law 376 = .ok (.iadd, 1) := by decide +kernel
theorem dL_law_377 : decode cL_law 377 = .ok (.iaload, 1) := by decide +kernel
theorem dL_law_378 : decode cL_law 378 = .ok (.aload_n 3, 1) := by decide +kernel
theorem dL_law_379 : decode cL_law 379 = .ok (.invokestatic 156, 3) := by decide +kernel
theorem dL_law_382 : decode cL_law 382 = .ok (.istore 6, 2) := by decide +kernel
theorem dL_law_384 : decode cL_law 384 = .ok (.aload_n 2, 1) := by decide +kernel
theorem dL_law_385 : decode cL_law 385 = .ok (.aload_n 0, 1) := by decide +kernel
theorem dL_law_386 : decode cL_law 386 = .ok (.iload 5, 2) := by decide +kernel
theorem dL_law_388 : decode cL_law 388 = .ok (.iconst 1, 1) := by decide +kernel
theorem dL_law_389 : decode cL_law 389 = .ok (.iadd, 1) := by decide +kernel
theorem dL_law_390 : decode cL_law 390 = .ok (.iaload, 1) := by decide +kernel
theorem dL_law_391 : decode cL_law 391 = .ok (.aload_n 0, 1) := by decide +kernel
theorem dL_law_392 : decode cL_law 392 = .ok (.iload 5, 2) := by decide +kernel
theorem dL_law_394 : decode cL_law 394 = .ok (.iconst 2, 1) := by decide +kernel
theorem dL_law_395 : decode cL_law 395 = .ok (.iadd, 1) := by decide +kernel
theorem dL_law_396 : decode cL_law 396 = .ok (.iaload, 1) := by decide +kernel
theorem dL_law_397 : decode cL_law 397 = .ok (.invokevirtual 158, 3) := by decide +kernel
theorem dL_law_400 : decode cL_law 400 = .ok (.istore 7, 2) := by decide +kernel
theorem dL_law_402 : decode cL_law 402 = .ok (.aload_n 2, 1) := by decide +kernel
theorem dL_law_403 : decode cL_law 403 = .ok (.invokevirtual 144, 3) := by decide +kernel
theorem dL_law_406 : decode cL_law 406 = .ok (.iload 6, 2) := by decide +kernel
theorem dL_law_408 : decode cL_law 408 = .ok (.if_icmp .eq 5, 3) := by decide +kernel
theorem dL_law_411 : decode cL_law 411 = .ok (.iconst 0, 1) := by decide +kernel
theorem dL_law_412 : decode cL_law 412 = .ok (.ireturn, 1) := by decide +kernel
theorem dL_law_413 : decode cL_law 413 = .ok (.iload 6, 2) := by decide +kernel
theorem dL_law_415 : decode cL_law 415 = .ok (.ifCond .ne 15, 3) := by decide +kernel
theorem dL_law_418 : decode cL_law 418 = .ok (.aload_n 3, 1) := by decide +kernel
theorem dL_law_419 : decode cL_law 419 = .ok (.iconst 0, 1) := by decide +kernel
theorem dL_law_420 : decode cL_law 420 = .ok (.laload, 1) := by decide +kernel
theorem dL_law_421 : decode cL_law 421 = .ok (.iload 7, 2) := by decide +kernel
theorem dL_law_423 : decode cL_law 423 = .ok (.i2l, 1) := by decide +kernel
theorem dL_law_424 : decode cL_law 424 = .ok (.lcmp, 1) := by decide +kernel
theorem dL_law_425 : decode cL_law 425 = .ok (.ifCond .eq 5, 3) := by decide +kernel
theorem dL_law_428 : decode cL_law 428 = .ok (.iconst 0, 1) := by decide +kernel
theorem dL_law_429 : decode cL_law 429 = .ok (.ireturn, 1) := by decide +kernel
theorem dL_law_430 : decode cL_law 430 = .ok (.goto 2067, 3) := by decide +kernel
theorem dL_law_433 : decode cL_law 433 = .ok (.aload_n 1, 1) := by decide +kernel
theorem dL_law_434 : decode cL_law 434 = .ok (.aload_n 0, 1) := by decide +kernel
theorem dL_law_435 : decode cL_law 435 = .ok (.iload 5, 2) := by decide +kernel
theorem dL_law_437 : decode cL_law 437 = .ok (.iconst 1, 1) := by decide +kernel
theorem dL_law_438 : decode cL_law 438 = .ok (.iadd, 1) := by decide +kernel
theorem dL_law_439 : decode cL_law 439 = .ok (.iaload, 1) := by decide +kernel
theorem dL_law_440 : decode cL_law 440 = .ok (.aload_n 0, 1) := by decide +kernel
theorem dL_law_441 : decode cL_law 441 = .ok (.iload 5, 2) := by decide +kernel
theorem dL_law_443 : decode cL_law 443 = .ok (.iconst 2, 1) := by decide +kernel
theorem dL_law_444 : decode cL_law 444 = .ok (.iadd, 1) := by decide +kernel
theorem dL_law_445 : decode cL_law 445 = .ok (.iaload, 1) := by decide +kernel
theorem dL_law_446 : decode cL_law 446 = .ok (.aload_n 0, 1) := by decide +kernel
theorem dL_law_447 : decode cL_law 447 = .ok (.iload 5, 2) := by decide +kernel
theorem dL_law_449 : decode cL_law 449 = .ok (.iconst 3, 1) := by decide +kernel
theorem dL_law_450 : decode cL_law 450 = .ok (.iadd, 1) := by decide +kernel
theorem dL_law_451 : decode cL_law 451 = .ok (.iaload, 1) := by decide +kernel
theorem dL_law_452 : decode cL_law 452 = .ok (.aload_n 0, 1) := by decide +kernel
theorem dL_law_453 : decode cL_law 453 = .ok (.iload 5, 2) := by decide +kernel
theorem dL_law_455 : decode cL_law 455 = .ok (.iconst 4, 1) := by decide +kernel
theorem dL_law_456 : decode cL_law 456 = .ok (.iadd, 1) := by decide +kernel
theorem dL_law_457 : decode cL_law 457 = .ok (.iaload, 1) := by decide +kernel
theorem dL_law_458 : decode cL_law 458 = .ok (.aload_n 0, 1) := by decide +kernel
theorem dL_law_459 : decode cL_law 459 = .ok (.iload 5, 2) := by decide +kernel
theorem dL_law_461 : decode cL_law 461 = .ok (.iconst 5, 1) := by decide +kernel
theorem dL_law_462 : decode cL_law 462 = .ok (.iadd, 1) := by decide +kernel
theorem dL_law_463 : decode cL_law 463 = .ok (.iaload, 1) := by decide +kernel
theorem dL_law_464 : decode cL_law 464 = .ok (.aload_n 3, 1) := by decide +kernel
theorem dL_law_465 : decode cL_law 465 = .ok (.invokestatic 159, 3) := by decide +kernel
theorem dL_law_468 : decode cL_law 468 = .ok (.istore 6, 2) := by decide +kernel
theorem dL_law_470 : decode cL_law 470 = .ok (.aload_n 2, 1) := by decide +kernel
theorem dL_law_471 : decode cL_law 471 = .ok (.aload_n 0, 1) := by decide +kernel
theorem dL_law_472 : decode cL_law 472 = .ok (.iload 5, 2) := by decide +kernel
theorem dL_law_474 : decode cL_law 474 = .ok (.iconst 1, 1) := by decide +kernel
theorem dL_law_475 : decode cL_law 475 = .ok (.iadd, 1) := by decide +kernel
theorem dL_law_476 : decode cL_law 476 = .ok (.iaload, 1) := by decide +kernel
theorem dL_law_477 : decode cL_law 477 = .ok (.aload_n 0, 1) := by decide +kernel
theorem dL_law_478 : decode cL_law 478 = .ok (.iload 5, 2) := by decide +kernel
theorem dL_law_480 : decode cL_law 480 = .ok (.iconst 2, 1) := by decide +kernel
theorem dL_law_481 : decode cL_law 481 = .ok (.iadd, 1) := by decide +kernel
theorem dL_law_482 : decode cL_law 482 = .ok (.iaload, 1) := by decide +kernel
theorem dL_law_483 : decode cL_law 483 = .ok (.aload_n 0, 1) := by decide +kernel
theorem dL_law_484 : decode cL_law 484 = .ok (.iload 5, 2) := by decide +kernel
theorem dL_law_486 : decode cL_law 486 = .ok (.iconst 3, 1) := by decide +kernel
theorem dL_law_487 : decode cL_law 487 = .ok (.iadd, 1) := by decide +kernel
theorem dL_law_488 : decode cL_law 488 = .ok (.iaload, 1) := by decide +kernel
theorem dL_law_489 : decode cL_law 489 = .ok (.aload_n 0, 1) := by decide +kernel
theorem dL_law_490 : decode cL_law 490 = .ok (.iload 5, 2) := by decide +kernel
theorem dL_law_492 : decode cL_law 492 = .ok (.iconst 4, 1) := by decide +kernel
theorem dL_law_493 : decode cL_law 493 = .ok (.iadd, 1) := by decide +kernel
theorem dL_law_494 : decode cL_law 494 = .ok (.iaload, 1) := by decide +kernel
theorem dL_law_495 : decode cL_law 495 = .ok (.aload_n 0, 1) := by decide +kernel
theorem dL_law_496 : decode cL_law 496 = .ok (.iload 5, 2) := by decide +kernel
theorem dL_law_498 : decode cL_law 498 = .ok (.iconst 5, 1) := by decide +kernel
theorem dL_law_499 : decode cL_law 499 = .ok (.iadd, 1) := by decide +kernel
theorem dL_law_500 : decode cL_law 500 = .ok (.iaload, 1) := by decide +kernel
theorem dL_law_501 : decode cL_law 501 = .ok (.invokevirtual 162, 3) := by decide +kernel
theorem dL_law_504 : decode cL_law 504 = .ok (.istore 7, 2) := by decide +kernel
theorem dL_law_506 : decode cL_law 506 = .ok (.aload_n 2, 1) := by decide +kernel
theorem dL_law_507 : decode cL_law 507 = .ok (.invokevirtual 144, 3) := by decide +kernel
theorem dL_law_510 : decode cL_law 510 = .ok (.iload 6, 2) := by decide +kernel
theorem dL_law_512 : decode cL_law 512 = .ok (.if_icmp .eq 5, 3) := by decide +kernel
theorem dL_law_515 : decode cL_law 515 = .ok (.iconst 0, 1) := by decide +kernel
theorem dL_law_516 : decode cL_law 516 = .ok (.ireturn, 1) := by decide +kernel
theorem dL_law_517 : decode cL_law 517 = .ok (.iload 6, 2) := by decide +kernel
theorem dL_law_519 : decode cL_law 519 = .ok (.ifCond .ne 15, 3) := by decide +kernel
theorem dL_law_522 : decode cL_law 522 = .ok (.aload_n 3, 1) := by decide +kernel
theorem dL_law_523 : decode cL_law 523 = .ok (.iconst 0, 1) := by decide +kernel
theorem dL_law_524 : decode cL_law 524 = .ok (.laload, 1) := by decide +kernel
theorem dL_law_525 : decode cL_law 525 = .ok (.iload 7, 2) := by decide +kernel
theorem dL_law_527 : decode cL_law 527 = .ok (.i2l, 1) := by decide +kernel
theorem dL_law_528 : decode cL_law 528 = .ok (.lcmp, 1) := by decide +kernel
theorem dL_law_529 : decode cL_law 529 = .ok (.ifCond .eq 5, 3) := by decide +kernel
theorem dL_law_532 : decode cL_law 532 = .ok (.iconst 0, 1) := by decide +kernel
theorem dL_law_533 : decode cL_law 533 = .ok (.ireturn, 1) := by decide +kernel
theorem dL_law_534 : decode cL_law 534 = .ok (.goto 1963, 3) := by decide +kernel
theorem dL_law_537 : decode cL_law 537 = .ok (.aload_n 1, 1) := by decide +kernel
theorem dL_law_538 : decode cL_law 538 = .ok (.aload_n 0, 1) := by decide +kernel
theorem dL_law_539 : decode cL_law 539 = .ok (.iload 5, 2) := by decide +kernel
theorem dL_law_541 : decode cL_law 541 = .ok (.iconst 1, 1) := by decide +kernel
theorem dL_law_542 : decode cL_law 542 = .ok (.iadd, 1) := by decide +kernel
theorem dL_law_543 : decode cL_law 543 = .ok (.iaload, 1) := by decide +kernel
theorem dL_law_544 : decode cL_law 544 = .ok (.aload_n 3, 1) := by decide +kernel
theorem dL_law_545 : decode cL_law 545 = .ok (.invokestatic 163, 3) := by decide +kernel
theorem dL_law_548 : decode cL_law 548 = .ok (.istore 6, 2) := by decide +kernel
theorem dL_law_550 : decode cL_law 550 = .ok (.aload_n 2, 1) := by decide +kernel
theorem dL_law_551 : decode cL_law 551 = .ok (.aload_n 0, 1) := by decide +kernel
theorem dL_law_552 : decode cL_law 552 = .ok (.iload 5, 2) := by decide +kernel
theorem dL_law_554 : decode cL_law 554 = .ok (.iconst 1, 1) := by decide +kernel
theorem dL_law_555 : decode cL_law 555 = .ok (.iadd, 1) := by decide +kernel
theorem dL_law_556 : decode cL_law 556 = .ok (.iaload, 1) := by decide +kernel
theorem dL_law_557 : decode cL_law 557 = .ok (.invokevirtual 165, 3) := by decide +kernel
theorem dL_law_560 : decode cL_law 560 = .ok (.istore 7, 2) := by decide +kernel
theorem dL_law_562 : decode cL_law 562 = .ok (.aload_n 2, 1) := by decide +kernel
theorem dL_law_563 : decode cL_law 563 = .ok (.invokevirtual 144, 3) := by decide +kernel
theorem dL_law_566 : decode cL_law 566 = .ok (.iload 6, 2) := by decide +kernel
theorem dL_law_568 : decode cL_law 568 = .ok (.if_icmp .eq 5, 3) := by decide +kernel
theorem dL_law_571 : decode cL_law 571 = .ok (.iconst 0, 1) := by decide +kernel
theorem dL_law_572 : decode cL_law 572 = .ok (.ireturn, 1) := by decide +kernel
theorem dL_law_573 : decode cL_law 573 = .ok (.iload 6, 2) := by decide +kernel
theorem dL_law_575 : decode cL_law 575 = .ok (.ifCond .ne 15, 3) := by decide +kernel
theorem dL_law_578 : decode cL_law 578 = .ok (.aload_n 3, 1) := by decide +kernel
theorem dL_law_579 : decode cL_law 579 = .ok (.iconst 0, 1) := by decide +kernel
theorem dL_law_580 : decode cL_law 580 = .ok (.laload, 1) := by decide +kernel
theorem dL_law_581 : decode cL_law 581 = .ok (.iload 7, 2) := by decide +kernel
theorem dL_law_583 : decode cL_law 583 = .ok (.i2l, 1) := by decide +kernel
theorem dL_law_584 : decode cL_law 584 = .ok (.lcmp, 1) := by decide +kernel
theorem dL_law_585 : decode cL_law 585 = .ok (.ifCond .eq 5, 3) := by decide +kernel
theorem dL_law_588 : decode cL_law 588 = .ok (.iconst 0, 1) := by decide +kernel
theorem dL_law_589 : decode cL_law 589 = .ok (.ireturn, 1) := by decide +kernel
theorem dL_law_590 : decode cL_law 590 = .ok (.goto 1907, 3) := by decide +kernel
theorem dL_law_593 : decode cL_law 593 = .ok (.aload_n 1, 1) := by decide +kernel
theorem dL_law_594 : decode cL_law 594 = .ok (.invokevirtual 166, 3) := by decide +kernel
theorem dL_law_597 : decode cL_law 597 = .ok (.aload_n 2, 1) := by decide +kernel
theorem dL_law_598 : decode cL_law 598 = .ok (.invokevirtual 169, 3) := by decide +kernel
theorem dL_law_601 : decode cL_law 601 = .ok (.if_icmp .eq 1896, 3) := by decide +kernel
theorem dL_law_604 : decode cL_law 604 = .ok (.iconst 0, 1) := by decide +kernel
theorem dL_law_605 : decode cL_law 605 = .ok (.ireturn, 1) := by decide +kernel
theorem dL_law_606 : decode cL_law 606 = .ok (.aload_n 1, 1) := by decide +kernel
theorem dL_law_607 : decode cL_law 607 = .ok (.aload_n 0, 1) := by decide +kernel
theorem dL_law_608 : decode cL_law 608 = .ok (.iload 5, 2) := by decide +kernel
theorem dL_law_610 : decode cL_law 610 = .ok (.iconst 1, 1) := by decide +kernel
theorem dL_law_611 : decode cL_law 611 = .ok (.iadd, 1) := by decide +kernel
theorem dL_law_612 : decode cL_law 612 = .ok (.iaload, 1) := by decide +kernel
theorem dL_law_613 : decode cL_law 613 = .ok (.aload_n 3, 1) := by decide +kernel
theorem dL_law_614 : decode cL_law 614 = .ok (.invokestatic 170, 3) := by decide +kernel
theorem dL_law_617 : decode cL_law 617 = .ok (.istore 6, 2) := by decide +kernel
theorem dL_law_619 : decode cL_law 619 = .ok (.aload_n 2, 1) := by decide +kernel
theorem dL_law_620 : decode cL_law 620 = .ok (.aload_n 0, 1) := by decide +kernel
theorem dL_law_621 : decode cL_law 621 = .ok (.iload 5, 2) := by decide +kernel
theorem dL_law_623 : decode cL_law 623 = .ok (.iconst 1, 1) := by decide +kernel
theorem dL_law_624 : decode cL_law 624 = .ok (.iadd, 1) := by decide +kernel
theorem dL_law_625 : decode cL_law 625 = .ok (.iaload, 1) := by decide +kernel
theorem dL_law_626 : decode cL_law 626 = .ok (.invokevirtual 172, 3) := by decide +kernel
theorem dL_law_629 : decode cL_law 629 = .ok (.istore 7, 2) := by decide +kernel
theorem dL_law_631 : decode cL_law 631 = .ok (.aload_n 2, 1) := by decide +kernel
theorem dL_law_632 : decode cL_law 632 = .ok (.invokevirtual 144, 3) := by decide +kernel
theorem dL_law_635 : decode cL_law 635 = .ok (.iload 6, 2) := by decide +kernel
theorem dL_law_637 : decode cL_law 637 = .ok (.if_icmp .eq 5, 3) := by decide +kernel
theorem dL_law_640 : decode cL_law 640 = .ok (.iconst 0, 1) := by decide +kernel
theorem dL_law_641 : decode cL_law 641 = .ok (.ireturn, 1) := by decide +kernel
theorem dL_law_642 : decode cL_law 642 = .ok (.iload 6, 2) := by decide +kernel
theorem dL_law_644 : decode cL_law 644 = .ok (.ifCond .ne 15, 3) := by decide +kernel
theorem dL_law_647 : decode cL_law 647 = .ok (.aload_n 3, 1) := by decide +kernel
theorem dL_law_648 : decode cL_law 648 = .ok (.iconst 0, 1) := by decide +kernel
theorem dL_law_649 : decode cL_law 649 = .ok (.laload, 1) := by decide +kernel
theorem dL_law_650 : decode cL_law 650 = .ok (.iload 7, 2) := by decide +kernel
theorem dL_law_652 : decode cL_law 652 = .ok (.i2l, 1) := by decide +kernel
theorem dL_law_653 : decode cL_law 653 = .ok (.lcmp, 1) := by decide +kernel
theorem dL_law_654 : decode cL_law 654 = .ok (.ifCond .eq 5, 3) := by decide +kernel
theorem dL_law_657 : decode cL_law 657 = .ok (.iconst 0, 1) := by decide +kernel
theorem dL_law_658 : decode cL_law 658 = .ok (.ireturn, 1) := by decide +kernel
theorem dL_law_659 : decode cL_law 659 = .ok (.goto 1838, 3) := by decide +kernel
theorem dL_law_662 : decode cL_law 662 = .ok (.aload_n 1, 1) := by decide +kernel
theorem dL_law_663 : decode cL_law 663 = .ok (.aload_n 0, 1) := by decide +kernel
theorem dL_law_664 : decode cL_law 664 = .ok (.iload 5, 2) := by decide +kernel
theorem dL_law_666 : decode cL_law 666 = .ok (.iconst 1, 1) := by decide +kernel
theorem dL_law_667 : decode cL_law 667 = .ok (.iadd, 1) := by decide +kernel
theorem dL_law_668 : decode cL_law 668 = .ok (.iaload, 1) := by decide +kernel
theorem dL_law_669 : decode cL_law 669 = .ok (.aload_n 0, 1) := by decide +kernel
theorem dL_law_670 : decode cL_law 670 = .ok (.iload 5, 2) := by decide +kernel
theorem dL_law_672 : decode cL_law 672 = .ok (.iconst 2, 1) := by decide +kernel
theorem dL_law_673 : decode cL_law 673 = .ok (.iadd, 1) := by decide +kernel
theorem dL_law_674 : decode cL_law 674 = .ok (.iaload, 1) := by decide +kernel
theorem dL_law_675 : decode cL_law 675 = .ok (.aload_n 3, 1) := by decide +kernel
theorem dL_law_676 : decode cL_law 676 = .ok (.invokestatic 173, 3) := by decide +kernel
theorem dL_law_679 : decode cL_law 679 = .ok (.istore 6, 2) := by decide +kernel
theorem dL_law_681 : decode cL_law 681 = .ok (.aload_n 2, 1) := by decide +kernel
theorem dL_law_682 : decode cL_law 682 = .ok (.aload_n 0, 1) := by decide +kernel
theorem dL_law_683 : decode cL_law 683 = .ok (.iload 5, 2) := by decide +kernel
theorem dL_law_685 : decode cL_law 685 = .ok (.iconst 1, 1) := by decide +kernel
theorem dL_law_686 : decode cL_law 686 = .ok (.iadd, 1) := by decide +kernel
theorem dL_law_687 : decode cL_law 687 = .ok (.iaload, 1) := by decide +kernel
theorem dL_law_688 : decode cL_law 688 = .ok (.aload_n 0, 1) := by decide +kernel
theorem dL_law_689 : decode cL_law 689 = .ok (.iload 5, 2) := by decide +kernel
theorem dL_law_691 : decode cL_law 691 = .ok (.iconst 2, 1) := by decide +kernel
theorem dL_law_692 : decode cL_law 692 = .ok (.iadd, 1) := by decide +kernel
theorem dL_law_693 : decode cL_law 693 = .ok (.iaload, 1) := by decide +kernel
theorem dL_law_694 : decode cL_law 694 = .ok (.invokevirtual 175, 3) := by decide +kernel
theorem dL_law_697 : decode cL_law 697 = .ok (.istore 7, 2) := by decide +kernel
theorem dL_law_699 : decode cL_law 699 = .ok (.aload_n 2, 1) := by decide +kernel
theorem dL_law_700 : decode cL_law 700 = .ok (.invokevirtual 144, 3) := by decide +kernel
theorem dL_law_703 : decode cL_law 703 = .ok (.iload 6, 2) := by decide +kernel
theorem dL_law_705 : decode cL_law 705 = .ok (.if_icmp .eq 5, 3) := by decide +kernel
theorem dL_law_708 : decode cL_law 708 = .ok (.iconst 0, 1) := by decide +kernel
theorem dL_law_709 : decode cL_law 709 = .ok (.ireturn, 1) := by decide +kernel
theorem dL_law_710 : decode cL_law 710 = .ok (.iload 6, 2) := by decide +kernel
theorem dL_law_712 : decode cL_law 712 = .ok (.ifCond .ne 15, 3) := by decide +kernel
theorem dL_law_715 : decode cL_law 715 = .ok (.aload_n 3, 1) := by decide +kernel
theorem dL_law_716 : decode cL_law 716 = .ok (.iconst 0, 1) := by decide +kernel
theorem dL_law_717 : decode cL_law 717 = .ok (.laload, 1) := by decide +kernel
theorem dL_law_718 : decode cL_law 718 = .ok (.iload 7, 2) := by decide +kernel
theorem dL_law_720 : decode cL_law 720 = .ok (.i2l, 1) := by decide +kernel
theorem dL_law_721 : decode cL_law 721 = .ok (.lcmp, 1) := by decide +kernel
theorem dL_law_722 : decode cL_law 722 = .ok (.ifCond .eq 5, 3) := by decide +kernel
theorem dL_law_725 : decode cL_law 725 = .ok (.iconst 0, 1) := by decide +kernel
theorem dL_law_726 : decode cL_law 726 = .ok (.ireturn, 1) := by decide +kernel
theorem dL_law_727 : decode cL_law 727 = .ok (.goto 1770, 3) := by decide +kernel
theorem dL_law_730 : decode cL_law 730 = .ok (.aload_n 1, 1) := by decide +kernel
theorem dL_law_731 : decode cL_law 731 = .ok (.invokevirtual 176, 3) := by decide +kernel
theorem dL_law_734 : decode cL_law 734 = .ok (.aload_n 2, 1) := by decide +kernel
theorem dL_law_735 : decode cL_law 735 = .ok (.invokevirtual 179, 3) := by decide +kernel
theorem dL_law_738 : decode cL_law 738 = .ok (.if_icmp .eq 1759, 3) := by decide +kernel
theorem dL_law_741 : decode cL_law 741 = .ok (.iconst 0, 1) := by decide +kernel
theorem dL_law_742 : decode cL_law 742 = .ok (.ireturn, 1) := by decide +kernel
theorem dL_law_743 : decode cL_law 743 = .ok (.aload_n 1, 1) := by decide +kernel
theorem dL_law_744 : decode cL_law 744 = .ok (.aload_n 0, 1) := by decide +kernel
theorem dL_law_745 : decode cL_law 745 = .ok (.iload 5, 2) := by decide +kernel
theorem dL_law_747 : decode cL_law 747 = .ok (.iconst 1, 1) := by decide +kernel
theorem dL_law_748 : decode cL_law 748 = .ok (.iadd, 1) := by decide +kernel
theorem dL_law_749 : decode cL_law 749 = .ok (.iaload, 1) := by decide +kernel
theorem dL_law_750 : decode cL_law 750 = .ok (.aload_n 3, 1) := by decide +kernel
theorem dL_law_751 : decode cL_law 751 = .ok (.invokestatic 180, 3) := by decide +kernel
theorem dL_law_754 : decode cL_law 754 = .ok (.istore 6, 2) := by decide +kernel
theorem dL_law_756 : decode cL_law 756 = .ok (.aload_n 2, 1) := by decide +kernel
theorem dL_law_757 : decode cL_law 757 = .ok (.aload_n 0, 1) := by decide +kernel
theorem dL_law_758 : decode cL_law 758 = .ok (.iload 5, 2) := by decide +kernel
theorem dL_law_760 : decode cL_law 760 = .ok (.iconst 1, 1) := by decide +kernel
theorem dL_law_761 : decode cL_law 761 = .ok (.iadd, 1) := by decide +kernel
theorem dL_law_762 : decode cL_law 762 = .ok (.iaload, 1) := by decide +kernel
theorem dL_law_763 : decode cL_law 763 = .ok (.invokevirtual 182, 3) := by decide +kernel
theorem dL_law_766 : decode cL_law 766 = .ok (.istore 7, 2) := by decide +kernel
theorem dL_law_768 : decode cL_law 768 = .ok (.aload_n 2, 1) := by decide +kernel
theorem dL_law_769 : decode cL_law 769 = .ok (.invokevirtual 144, 3) := by decide +kernel
theorem dL_law_772 : decode cL_law 772 = .ok (.iload 6, 2) := by decide +kernel
theorem dL_law_774 : decode cL_law 774 = .ok (.if_icmp .eq 5, 3) := by decide +kernel
theorem dL_law_777 : decode cL_law 777 = .ok (.iconst 0, 1) := by decide +kernel
theorem dL_law_778 : decode cL_law 778 = .ok (.ireturn, 1) := by decide +kernel
theorem dL_law_779 : decode cL_law 779 = .ok (.iload 6, 2) := by decide +kernel
theorem dL_law_781 : decode cL_law 781 = .ok (.ifCond .ne 15, 3) := by decide +kernel
theorem dL_law_784 : decode cL_law 784 = .ok (.aload_n 3, 1) := by decide +kernel
theorem dL_law_785 : decode cL_law 785 = .ok (.iconst 0, 1) := by decide +kernel
theorem dL_law_786 : decode cL_law 786 = .ok (.laload, 1) := by decide +kernel
theorem dL_law_787 : decode cL_law 787 = .ok (.iload 7, 2) := by decide +kernel
theorem dL_law_789 : decode cL_law 789 = .ok (.i2l, 1) := by decide +kernel
theorem dL_law_790 : decode cL_law 790 = .ok (.lcmp, 1) := by decide +kernel
theorem dL_law_791 : decode cL_law 791 = .ok (.ifCond .eq 5, 3) := by decide +kernel
theorem dL_law_794 : decode cL_law 794 = .ok (.iconst 0, 1) := by decide +kernel
theorem dL_law_795 : decode cL_law 795 = .ok (.ireturn, 1) := by decide +kernel
theorem dL_law_796 : decode cL_law 796 = .ok (.goto 1701, 3) := by decide +kernel
theorem dL_law_799 : decode cL_law 799 = .ok (.aload_n 1, 1) := by decide +kernel
theorem dL_law_800 : decode cL_law 800 = .ok (.aload_n 0, 1) := by decide +kernel
theorem dL_law_801 : decode cL_law 801 = .ok (.iload 5, 2) := by decide +kernel
theorem dL_law_803 : decode cL_law 803 = .ok (.iconst 1, 1) := by decide +kernel
theorem dL_law_804 : decode cL_law 804 = .ok (.iadd, 1) := by decide +kernel
theorem dL_law_805 : decode cL_law 805 = .ok (.iaload, 1) := by decide +kernel
theorem dL_law_806 : decode cL_law 806 = .ok (.aload_n 3, 1) := by decide +kernel
theorem dL_law_807 : decode cL_law 807 = .ok (.invokestatic 183, 3) := by decide +kernel
theorem dL_law_810 : decode cL_law 810 = .ok (.istore 6, 2) := by decide +kernel
theorem dL_law_812 : decode cL_law 812 = .ok (.aload_n 2, 1) := by decide +kernel
theorem dL_law_813 : decode cL_law 813 = .ok (.aload_n 0, 1) := by decide +kernel
theorem dL_law_814 : decode cL_law 814 = .ok (.iload 5, 2) := by decide +kernel
theorem dL_law_816 : decode cL_law 816 = .ok (.iconst 1, 1) := by decide +kernel
theorem dL_law_817 : decode cL_law 817 = .ok (.iadd, 1) := by decide +kernel
theorem dL_law_818 : decode cL_law 818 = .ok (.iaload, 1) := by decide +kernel
theorem dL_law_819 : decode cL_law 819 = .ok (.invokevirtual 185, 3) := by decide +kernel
theorem dL_law_822 : decode cL_law 822 = .ok (.istore 7, 2) := by decide +kernel
theorem dL_law_824 : decode cL_law 824 = .ok (.aload_n 2, 1) := by decide +kernel
theorem dL_law_825 : decode cL_law 825 = .ok (.invokevirtual 144, 3) := by decide +kernel
theorem dL_law_828 : decode cL_law 828 = .ok (.iload 6, 2) := by decide +kernel
theorem dL_law_830 : decode cL_law 830 = .ok (.if_icmp .eq 5, 3) := by decide +kernel
theorem dL_law_833 : decode cL_law 833 = .ok (.iconst 0, 1) := by decide +kernel
theorem dL_law_834 : decode cL_law 834 = .ok (.ireturn, 1) := by decide +kernel
theorem dL_law_835 : decode cL_law 835 = .ok (.iload 6, 2) := by decide +kernel
theorem dL_law_837 : decode cL_law 837 = .ok (.ifCond .ne 15, 3) := by decide +kernel
theorem dL_law_840 : decode cL_law 840 = .ok (.aload_n 3, 1) := by decide +kernel
theorem dL_law_841 : decode cL_law 841 = .ok (.iconst 0, 1) := by decide +kernel
theorem dL_law_842 : decode cL_law 842 = .ok (.laload, 1) := by decide +kernel
theorem dL_law_843 : decode cL_law 843 = .ok (.iload 7, 2) := by decide +kernel
theorem dL_law_845 : decode cL_law 845 = .ok (.i2l, 1) := by decide +kernel
theorem dL_law_846 : decode cL_law 846 = .ok (.lcmp, 1) := by decide +kernel
theorem dL_law_847 : decode cL_law 847 = .ok (.ifCond .eq 5, 3) := by decide +kernel
theorem dL_law_850 : decode cL_law 850 = .ok (.iconst 0, 1) := by decide +kernel
theorem dL_law_851 : decode cL_law 851 = .ok (.ireturn, 1) := by decide +kernel
theorem dL_law_852 : decode cL_law 852 = .ok (.goto 1645, 3) := by decide +kernel
theorem dL_law_855 : decode cL_law 855 = .ok (.aload_n 1, 1) := by decide +kernel
theorem dL_law_856 : decode cL_law 856 = .ok (.aload_n 0, 1) := by decide +kernel
theorem dL_law_857 : decode cL_law 857 = .ok (.iload 5, 2) := by decide +kernel
theorem dL_law_859 : decode cL_law 859 = .ok (.iconst 1, 1) := by decide +kernel
theorem dL_law_860 : decode cL_law 860 = .ok (.iadd, 1) := by decide +kernel
theorem dL_law_861 : decode cL_law 861 = .ok (.iaload, 1) := by decide +kernel
theorem dL_law_862 : decode cL_law 862 = .ok (.aload_n 0, 1) := by decide +kernel
theorem dL_law_863 : decode cL_law 863 = .ok (.iload 5, 2) := by decide +kernel
theorem dL_law_865 : decode cL_law 865 = .ok (.iconst 2, 1) := by decide +kernel
theorem dL_law_866 : decode cL_law 866 = .ok (.iadd, 1) := by decide +kernel
theorem dL_law_867 : decode cL_law 867 = .ok (.iaload, 1) := by decide +kernel
theorem dL_law_868 : decode cL_law 868 = .ok (.aload_n 3, 1) := by decide +kernel
theorem dL_law_869 : decode cL_law 869 = .ok (.invokestatic 186, 3) := by decide +kernel
theorem dL_law_872 : decode cL_law 872 = .ok (.istore 6, 2) := by decide +kernel
theorem dL_law_874 : decode cL_law 874 = .ok (.aload_n 2, 1) := by decide +kernel
theorem dL_law_875 : decode cL_law 875 = .ok (.aload_n 0, 1) := by decide +kernel
theorem dL_law_876 : decode cL_law 876 = .ok (.iload 5, 2) := by decide +kernel
theorem dL_law_878 : decode cL_law 878 = .ok (.iconst 1, 1) := by decide +kernel
theorem dL_law_879 : decode cL_law 879 = .ok (.iadd, 1) := by decide +kernel
theorem dL_law_880 : decode cL_law 880 = .ok (.iaload, 1) := by decide +kernel
theorem dL_law_881 : decode cL_law 881 = .ok (.aload_n 0, 1) := by decide +kernel
theorem dL_law_882 : decode cL_law 882 = .ok (.iload 5, 2) := by decide +kernel
theorem dL_law_884 : decode cL_law 884 = .ok (.iconst 2, 1) := by decide +kernel
theorem dL_law_885 : decode cL_law 885 = .ok (.iadd, 1) := by decide +kernel
theorem dL_law_886 : decode cL_law 886 = .ok (.iaload, 1) := by decide +kernel
theorem dL_law_887 : decode cL_law 887 = .ok (.invokevirtual 188, 3) := by decide +kernel
theorem dL_law_890 : decode cL_law 890 = .ok (.istore 7, 2) := by decide +kernel
theorem dL_law_892 : decode cL_law 892 = .ok (.aload_n 2, 1) := by decide +kernel
theorem dL_law_893 : decode cL_law 893 = .ok (.invokevirtual 144, 3) := by decide +kernel
theorem dL_law_896 : decode cL_law 896 = .ok (.iload 6, 2) := by decide +kernel
theorem dL_law_898 : decode cL_law 898 = .ok (.if_icmp .eq 5, 3) := by decide +kernel
theorem dL_law_901 : decode cL_law 901 = .ok (.iconst 0, 1) := by decide +kernel
theorem dL_law_902 : decode cL_law 902 = .ok (.ireturn, 1) := by decide +kernel
theorem dL_law_903 : decode cL_law 903 = .ok (.iload 6, 2) := by decide +kernel
theorem dL_law_905 : decode cL_law 905 = .ok (.ifCond .ne 15, 3) := by decide +kernel
theorem dL_law_908 : decode cL_law 908 = .ok (.aload_n 3, 1) := by decide +kernel
theorem dL_law_909 : decode cL_law 909 = .ok (.iconst 0, 1) := by decide +kernel
theorem dL_law_910 : decode cL_law 910 = .ok (.laload, 1) := by decide +kernel
theorem dL_law_911 : decode cL_law 911 = .ok (.iload 7, 2) := by decide +kernel
theorem dL_law_913 : decode cL_law 913 = .ok (.i2l, 1) := by decide +kernel
theorem dL_law_914 : decode cL_law 914 = .ok (.lcmp, 1) := by decide +kernel
theorem dL_law_915 : decode cL_law 915 = .ok (.ifCond .eq 5, 3) := by decide +kernel
theorem dL_law_918 : decode cL_law 918 = .ok (.iconst 0, 1) := by decide +kernel
theorem dL_law_919 : decode cL_law 919 = .ok (.ireturn, 1) := by decide +kernel
theorem dL_law_920 : decode cL_law 920 = .ok (.goto 1577, 3) := by decide +kernel
theorem dL_law_923 : decode cL_law 923 = .ok (.aload_n 1, 1) := by decide +kernel
theorem dL_law_924 : decode cL_law 924 = .ok (.aload_n 0, 1) := by decide +kernel
theorem dL_law_925 : decode cL_law 925 = .ok (.iload 5, 2) := by decide +kernel
theorem dL_law_927 : decode cL_law 927 = .ok (.iconst 1, 1) := by decide +kernel
theorem dL_law_928 : decode cL_law 928 = .ok (.iadd, 1) := by decide +kernel
theorem dL_law_929 : decode cL_law 929 = .ok (.iaload, 1) := by decide +kernel
theorem dL_law_930 : decode cL_law 930 = .ok (.aload_n 3, 1) := by decide +kernel
theorem dL_law_931 : decode cL_law 931 = .ok (.invokestatic 189, 3) := by decide +kernel
theorem dL_law_934 : decode cL_law 934 = .ok (.istore 6, 2) := by decide +kernel
theorem dL_law_936 : decode cL_law 936 = .ok (.aload_n 2, 1) := by decide +kernel
theorem dL_law_937 : decode cL_law 937 = .ok (.aload_n 0, 1) := by decide +kernel
theorem dL_law_938 : decode cL_law 938 = .ok (.iload 5, 2) := by decide +kernel
theorem dL_law_940 : decode cL_law 940 = .ok (.iconst 1, 1) := by decide +kernel
theorem dL_law_941 : decode cL_law 941 = .ok (.iadd, 1) := by decide +kernel
theorem dL_law_942 : decode cL_law 942 = .ok (.iaload, 1) := by decide +kernel
theorem dL_law_943 : decode cL_law 943 = .ok (.invokevirtual 191, 3) := by decide +kernel
theorem dL_law_946 : decode cL_law 946 = .ok (.istore 7, 2) := by decide +kernel
theorem dL_law_948 : decode cL_law 948 = .ok (.aload_n 2, 1) := by decide +kernel
theorem dL_law_949 : decode cL_law 949 = .ok (.invokevirtual 144, 3) := by decide +kernel
theorem dL_law_952 : decode cL_law 952 = .ok (.iload 6, 2) := by decide +kernel
theorem dL_law_954 : decode cL_law 954 = .ok (.if_icmp .eq 5, 3) := by decide +kernel
theorem dL_law_957 : decode cL_law 957 = .ok (.iconst 0, 1) := by decide +kernel
theorem dL_law_958 : decode cL_law 958 = .ok (.ireturn, 1) := by decide +kernel
theorem dL_law_959 : decode cL_law 959 = .ok (.iload 6, 2) := by decide +kernel
theorem dL_law_961 : decode cL_law 961 = .ok (.ifCond .ne 15, 3) := by decide +kernel
theorem dL_law_964 : decode cL_law 964 = .ok (.aload_n 3, 1) := by decide +kernel
theorem dL_law_965 : decode cL_law 965 = .ok (.iconst 0, 1) := by decide +kernel
theorem dL_law_966 : decode cL_law 966 = .ok (.laload, 1) := by decide +kernel
theorem dL_law_967 : decode cL_law 967 = .ok (.iload 7, 2) := by decide +kernel
theorem dL_law_969 : decode cL_law 969 = .ok (.i2l, 1) := by decide +kernel
theorem dL_law_970 : decode cL_law 970 = .ok (.lcmp, 1) := by decide +kernel
theorem dL_law_971 : decode cL_law 971 = .ok (.ifCond .eq 5, 3) := by decide +kernel
theorem dL_law_974 : decode cL_law 974 = .ok (.iconst 0, 1) := by decide +kernel
theorem dL_law_975 : decode cL_law 975 = .ok (.ireturn, 1) := by decide +kernel
theorem dL_law_976 : decode cL_law 976 = .ok (.goto 1521, 3) := by decide +kernel
theorem dL_law_979 : decode cL_law 979 = .ok (.aload_n 1, 1) := by decide +kernel
theorem dL_law_980 : decode cL_law 980 = .ok (.aload_n 0, 1) := by decide +kernel
theorem dL_law_981 : decode cL_law 981 = .ok (.iload 5, 2) := by decide +kernel
theorem dL_law_983 : decode cL_law 983 = .ok (.iconst 1, 1) := by decide +kernel
theorem dL_law_984 : decode cL_law 984 = .ok (.iadd, 1) := by decide +kernel
theorem dL_law_985 : decode cL_law 985 = .ok (.iaload, 1) := by decide +kernel
theorem dL_law_986 : decode cL_law 986 = .ok (.aload_n 3, 1) := by decide +kernel
theorem dL_law_987 : decode cL_law 987 = .ok (.invokestatic 192, 3) := by decide +kernel
theorem dL_law_990 : decode cL_law 990 = .ok (.istore 6, 2) := by decide +kernel
theorem dL_law_992 : decode cL_law 992 = .ok (.aload_n 2, 1) := by decide +kernel
theorem dL_law_993 : decode cL_law 993 = .ok (.aload_n 0, 1) := by decide +kernel
theorem dL_law_994 : decode cL_law 994 = .ok (.iload 5, 2) := by decide +kernel
theorem dL_law_996 : decode cL_law 996 = .ok (.iconst 1, 1) := by decide +kernel
theorem dL_law_997 : decode cL_law 997 = .ok (.iadd, 1) := by decide +kernel
theorem dL_law_998 : decode cL_law 998 = .ok (.iaload, 1) := by decide +kernel
theorem dL_law_999 : decode cL_law 999 = .ok (.invokevirtual 194, 3) := by decide +kernel
theorem dL_law_1002 : decode cL_law 1002 = .ok (.istore 7, 2) := by decide +kernel
theorem dL_law_1004 : decode cL_law 1004 = .ok (.aload_n 2, 1) := by decide +kernel
theorem dL_law_1005 : decode cL_law 1005 = .ok (.invokevirtual 144, 3) := by decide +kernel
theorem dL_law_1008 : decode cL_law 1008 = .ok (.iload 6, 2) := by decide +kernel
theorem dL_law_1010 : decode cL_law 1010 = .ok (.if_icmp .eq 5, 3) := by decide +kernel
theorem dL_law_1013 : decode cL_law 1013 = .ok (.iconst 0, 1) := by decide +kernel
theorem dL_law_1014 : decode cL_law 1014 = .ok (.ireturn, 1) := by decide +kernel
theorem dL_law_1015 : decode cL_law 1015 = .ok (.iload 6, 2) := by decide +kernel
theorem dL_law_1017 : decode cL_law 1017 = .ok (.ifCond .ne 15, 3) := by decide +kernel
theorem dL_law_1020 : decode cL_law 1020 = .ok (.aload_n 3, 1) := by decide +kernel
theorem dL_law_1021 : decode cL_law 1021 = .ok (.iconst 0, 1) := by decide +kernel
theorem dL_law_1022 : decode cL_law 1022 = .ok (.laload, 1) := by decide +kernel
theorem dL_law_1023 : decode cL_law 1023 = .ok (.iload 7, 2) := by decide +kernel
theorem dL_law_1025 : decode cL_law 1025 = .ok (.i2l, 1) := by decide +kernel
theorem dL_law_1026 : decode cL_law 1026 = .ok (.lcmp, 1) := by decide +kernel
theorem dL_law_1027 : decode cL_law 1027 = .ok (.ifCond .eq 5, 3) := by decide +kernel
theorem dL_law_1030 : decode cL_law 1030 = .ok (.iconst 0, 1) := by decide +kernel
theorem dL_law_1031 : decode cL_law 1031 = .ok (.ireturn, 1) := by decide +kernel
theorem dL_law_1032 : decode cL_law 1032 = .ok (.goto 1465, 3) := by decide +kernel
theorem dL_law_1035 : decode cL_law 1035 = .ok (.aload_n 1, 1) := by decide +kernel
theorem dL_law_1036 : decode cL_law 1036 = .ok (.aload_n 0, 1) := by decide +kernel
theorem dL_law_1037 : decode cL_law 1037 = .ok (.iload 5, 2) := by decide +kernel
theorem dL_law_1039 : decode cL_law 1039 = .ok (.iconst 1, 1) := by decide +kernel
theorem dL_law_1040 : decode cL_law 1040 = .ok (.iadd, 1) := by decide +kernel
theorem dL_law_1041 : decode cL_law 1041 = .ok (.iaload, 1) := by decide +kernel
theorem dL_law_1042 : decode cL_law 1042 = .ok (.aload_n 3, 1) := by decide +kernel
theorem dL_law_1043 : decode cL_law 1043 = .ok (.invokestatic 195, 3) := by decide +kernel
theorem dL_law_1046 : decode cL_law 1046 = .ok (.istore 6, 2) := by decide +kernel
theorem dL_law_1048 : decode cL_law 1048 = .ok (.aload_n 2, 1) := by decide +kernel
theorem dL_law_1049 : decode cL_law 1049 = .ok (.aload_n 0, 1) := by decide +kernel
theorem dL_law_1050 : decode cL_law 1050 = .ok (.iload 5, 2) := by decide +kernel
theorem dL_law_1052 : decode cL_law 1052 = .ok (.iconst 1, 1) := by decide +kernel
theorem dL_law_1053 : decode cL_law 1053 = .ok (.iadd, 1) := by decide +kernel
theorem dL_law_1054 : decode cL_law 1054 = .ok (.iaload, 1) := by decide +kernel
theorem dL_law_1055 : decode cL_law 1055 = .ok (.invokevirtual 197, 3) := by decide +kernel
theorem dL_law_1058 : decode cL_law 1058 = .ok (.istore 7, 2) := by decide +kernel
theorem dL_law_1060 : decode cL_law 1060 = .ok (.aload_n 2, 1) := by decide +kernel
theorem dL_law_1061 : decode cL_law 1061 = .ok (.invokevirtual 144, 3) := by decide +kernel
theorem dL_law_1064 : decode cL_law 1064 = .ok (.iload 6, 2) := by decide +kernel
theorem dL_law_1066 : decode cL_law 1066 = .ok (.if_icmp .eq 5, 3) := by decide +kernel
theorem dL_law_1069 : decode cL_law 1069 = .ok (.iconst 0, 1) := by decide +kernel
theorem dL_law_1070 : decode cL_law 1070 = .ok (.ireturn, 1) := by decide +kernel
theorem dL_law_1071 : decode cL_law 1071 = .ok (.iload 6, 2) := by decide +kernel
theorem dL_law_1073 : decode cL_law 1073 = .ok (.ifCond .ne 22, 3) := by decide +kernel
theorem dL_law_1076 : decode cL_law 1076 = .ok (.aload_n 3, 1) := by decide +kernel
theorem dL_law_1077 : decode cL_law 1077 = .ok (.iconst 0, 1) := by decide +kernel
theorem dL_law_1078 : decode cL_law 1078 = .ok (.laload, 1) := by decide +kernel
theorem dL_law_1079 : decode cL_law 1079 = .ok (.iload 7, 2) := by decide +kernel
theorem dL_law_1081 : decode cL_law 1081 = .ok (.ifCond .eq 7, 3) := by decide +kernel
theorem dL_law_1084 : decode cL_law 1084 = .ok (.lconst 1, 1) := by decide +kernel
theorem dL_law_1085 : decode cL_law 1085 = .ok (.goto 4, 3) := by decide +kernel
theorem dL_law_1088 : decode cL_law 1088 = .ok (.lconst 0, 1) := by decide +kernel
theorem dL_law_1089 : decode cL_law 1089 = .ok (.lcmp, 1) := by decide +kernel
theorem dL_law_1090 : decode cL_law 1090 = .ok (.ifCond .eq 5, 3) := by decide +kernel
theorem dL_law_1093 : decode cL_law 1093 = .ok (.iconst 0, 1) := by decide +kernel
theorem dL_law_1094 : decode cL_law 1094 = .ok (.ireturn, 1) := by decide +kernel
theorem dL_law_1095 : decode cL_law 1095 = .ok (.goto 1402, 3) := by decide +kernel
theorem dL_law_1098 : decode cL_law 1098 = .ok (.aload_n 1, 1) := by decide +kernel
theorem dL_law_1099 : decode cL_law 1099 = .ok (.aload_n 0, 1) := by decide +kernel
theorem dL_law_1100 : decode cL_law 1100 = .ok (.iload 5, 2) := by decide +kernel
theorem dL_law_1102 : decode cL_law 1102 = .ok (.iconst 1, 1) := by decide +kernel
theorem dL_law_1103 : decode cL_law 1103 = .ok (.iadd, 1) := by decide +kernel
theorem dL_law_1104 : decode cL_law 1104 = .ok (.iaload, 1) := by decide +kernel
theorem dL_law_1105 : decode cL_law 1105 = .ok (.aload_n 3, 1) := by decide +kernel
theorem dL_law_1106 : decode cL_law 1106 = .ok (.invokestatic 198, 3) := by decide +kernel
theorem dL_law_1109 : decode cL_law 1109 = .ok (.istore 6, 2) := by decide +kernel
theorem dL_law_1111 : decode cL_law 1111 = .ok (.aload_n 2, 1) := by decide +kernel
theorem dL_law_1112 : decode cL_law 1112 = .ok (.aload_n 0, 1) := by decide +kernel
theorem dL_law_1113 : decode cL_law 1113 = .ok (.iload 5, 2) := by decide +kernel
theorem dL_law_1115 : decode cL_law 1115 = .ok (.iconst 1, 1) := by decide +kernel
theorem dL_law_1116 : decode cL_law 1116 = .ok (.iadd, 1) := by decide +kernel
theorem dL_law_1117 : decode cL_law 1117 = .ok (.iaload, 1) := by decide +kernel
theorem dL_law_1118 : decode cL_law 1118 = .ok (.invokevirtual 200, 3) := by decide +kernel
theorem dL_law_1121 : decode cL_law 1121 = .ok (.istore 7, 2) := by decide +kernel
theorem dL_law_1123 : decode cL_law 1123 = .ok (.aload_n 2, 1) := by decide +kernel
theorem dL_law_1124 : decode cL_law 1124 = .ok (.invokevirtual 144, 3) := by decide +kernel
theorem dL_law_1127 : decode cL_law 1127 = .ok (.iload 6, 2) := by decide +kernel
theorem dL_law_1129 : decode cL_law 1129 = .ok (.if_icmp .eq 5, 3) := by decide +kernel
theorem dL_law_1132 : decode cL_law 1132 = .ok (.iconst 0, 1) := by decide +kernel
theorem dL_law_1133 : decode cL_law 1133 = .ok (.ireturn, 1) := by decide +kernel
theorem dL_law_1134 : decode cL_law 1134 = .ok (.iload 6, 2) := by decide +kernel
theorem dL_law_1136 : decode cL_law 1136 = .ok (.ifCond .ne 15, 3) := by decide +kernel
theorem dL_law_1139 : decode cL_law 1139 = .ok (.aload_n 3, 1) := by decide +kernel
theorem dL_law_1140 : decode cL_law 1140 = .ok (.iconst 0, 1) := by decide +kernel
theorem dL_law_1141 : decode cL_law 1141 = .ok (.laload, 1) := by decide +kernel
theorem dL_law_1142 : decode cL_law 1142 = .ok (.iload 7, 2) := by decide +kernel
theorem dL_law_1144 : decode cL_law 1144 = .ok (.i2l, 1) := by decide +kernel
theorem dL_law_1145 : decode cL_law 1145 = .ok (.lcmp, 1) := by decide +kernel
theorem dL_law_1146 : decode cL_law 1146 = .ok (.ifCond .eq 5, 3) := by decide +kernel
theorem dL_law_1149 : decode cL_law 1149 = .ok (.iconst 0, 1) := by decide +kernel
theorem dL_law_1150 : decode cL_law 1150 = .ok (.ireturn, 1) := by decide +kernel
theorem dL_law_1151 : decode cL_law 1151 = .ok (.goto 1346, 3) := by decide +kernel
theorem dL_law_1154 : decode cL_law 1154 = .ok (.aload_n 1, 1) := by decide +kernel
theorem dL_law_1155 : decode cL_law 1155 = .ok (.aload_n 0, 1) := by decide +kernel
theorem dL_law_1156 : decode cL_law 1156 = .ok (.iload 5, 2) := by decide +kernel
theorem dL_law_1158 : decode cL_law 1158 = .ok (.iconst 1, 1) := by decide +kernel
theorem dL_law_1159 : decode cL_law 1159 = .ok (.iadd, 1) := by decide +kernel
theorem dL_law_1160 : decode cL_law 1160 = .ok (.iaload, 1) := by decide +kernel
theorem dL_law_1161 : decode cL_law 1161 = .ok (.aload_n 0, 1) := by decide +kernel
theorem dL_law_1162 : decode cL_law 1162 = .ok (.iload 5, 2) := by decide +kernel
theorem dL_law_1164 : decode cL_law 1164 = .ok (.iconst 2, 1) := by decide +kernel
theorem dL_law_1165 : decode cL_law 1165 = .ok (.iadd, 1) := by decide +kernel
theorem dL_law_1166 : decode cL_law 1166 = .ok (.iaload, 1) := by decide +kernel
theorem dL_law_1167 : decode cL_law 1167 = .ok (.aload_n 3, 1) := by decide +kernel
theorem dL_law_1168 : decode cL_law 1168 = .ok (.invokestatic 201, 3) := by decide +kernel
theorem dL_law_1171 : decode cL_law 1171 = .ok (.istore 6, 2) := by decide +kernel
theorem dL_law_1173 : decode cL_law 1173 = .ok (.aload_n 2, 1) := by decide +kernel
theorem dL_law_1174 : decode cL_law 1174 = .ok (.aload_n 0, 1) := by decide +kernel
theorem dL_law_1175 : decode cL_law 1175 = .ok (.iload 5, 2) := by decide +kernel
theorem dL_law_1177 : decode cL_law 1177 = .ok (.iconst 1, 1) := by decide +kernel
theorem dL_law_1178 : decode cL_law 1178 = .ok (.iadd, 1) := by decide +kernel
theorem dL_law_1179 : decode cL_law 1179 = .ok (.iaload, 1) := by decide +kernel
theorem dL_law_1180 : decode cL_law 1180 = .ok (.aload_n 0, 1) := by decide +kernel
theorem dL_law_1181 : decode cL_law 1181 = .ok (.iload 5, 2) := by decide +kernel
theorem dL_law_1183 : decode cL_law 1183 = .ok (.iconst 2, 1) := by decide +kernel
theorem dL_law_1184 : decode cL_law 1184 = .ok (.iadd, 1) := by decide +kernel
theorem dL_law_1185 : decode cL_law 1185 = .ok (.iaload, 1) := by decide +kernel
theorem dL_law_1186 : decode cL_law 1186 = .ok (.invokevirtual 203, 3) := by decide +kernel
theorem dL_law_1189 : decode cL_law 1189 = .ok (.istore 7, 2) := by decide +kernel
theorem dL_law_1191 : decode cL_law 1191 = .ok (.aload_n 2, 1) := by decide +kernel
theorem dL_law_1192 : decode cL_law 1192 = .ok (.invokevirtual 144, 3) := by decide +kernel
theorem dL_law_1195 : decode cL_law 1195 = .ok (.iload 6, 2) := by decide +kernel
theorem dL_law_1197 : decode cL_law 1197 = .ok (.if_icmp .eq 5, 3) := by decide +kernel
theorem dL_law_1200 : decode cL_law 1200 = .ok (.iconst 0, 1) := by decide +kernel
theorem dL_law_1201 : decode cL_law 1201 = .ok (.ireturn, 1) := by decide +kernel
theorem dL_law_1202 : decode cL_law 1202 = .ok (.iload 6, 2) := by decide +kernel
theorem dL_law_1204 : decode cL_law 1204 = .ok (.ifCond .ne 15, 3) := by decide +kernel
theorem dL_law_1207 : decode cL_law 1207 = .ok (.aload_n 3, 1) := by decide +kernel
theorem dL_law_1208 : decode cL_law 1208 = .ok (.iconst 0, 1) := by decide +kernel
theorem dL_law_1209 : decode cL_law 1209 = .ok (.laload, 1) := by decide +kernel
theorem dL_law_1210 : decode cL_law 1210 = .ok (.iload 7, 2) := by decide +kernel
theorem dL_law_1212 : decode cL_law 1212 = .ok (.i2l, 1) := by decide +kernel
theorem dL_law_1213 : decode cL_law 1213 = .ok (.lcmp, 1) := by decide +kernel
theorem dL_law_1214 : decode cL_law 1214 = .ok (.ifCond .eq 5, 3) := by decide +kernel
theorem dL_law_1217 : decode cL_law 1217 = .ok (.iconst 0, 1) := by decide +kernel
theorem dL_law_1218 : decode cL_law 1218 = .ok (.ireturn, 1) := by decide +kernel
theorem dL_law_1219 : decode cL_law 1219 = .ok (.goto 1278, 3) := by decide +kernel
theorem dL_law_1222 : decode cL_law 1222 = .ok (.aload_n 1, 1) := by decide +kernel
theorem dL_law_1223 : decode cL_law 1223 = .ok (.aload_n 0, 1) := by decide +kernel
theorem dL_law_1224 : decode cL_law 1224 = .ok (.iload 5, 2) := by decide +kernel
theorem dL_law_1226 : decode cL_law 1226 = .ok (.iconst 1, 1) := by decide +kernel
theorem dL_law_1227 : decode cL_law 1227 = .ok (.iadd, 1) := by decide +kernel
theorem dL_law_1228 : decode cL_law 1228 = .ok (.iaload, 1) := by decide +kernel
theorem dL_law_1229 : decode cL_law 1229 = .ok (.aload_n 0, 1) := by decide +kernel
theorem dL_law_1230 : decode cL_law 1230 = .ok (.iload 5, 2) := by decide +kernel
theorem dL_law_1232 : decode cL_law 1232 = .ok (.iconst 2, 1) := by decide +kernel
theorem dL_law_1233 : decode cL_law 1233 = .ok (.iadd, 1) := by decide +kernel
theorem dL_law_1234 : decode cL_law 1234 = .ok (.iaload, 1) := by decide +kernel
theorem dL_law_1235 : decode cL_law 1235 = .ok (.ifCond .eq 7, 3) := by decide +kernel
theorem dL_law_1238 : decode cL_law 1238 = .ok (.iconst 1, 1) := by decide +kernel
theorem dL_law_1239 : decode cL_law 1239 = .ok (.goto 4, 3) := by decide +kernel
theorem dL_law_1242 : decode cL_law 1242 = .ok (.iconst 0, 1) := by decide +kernel
theorem dL_law_1243 : decode cL_law 1243 = .ok (.aload_n 3, 1) := by decide +kernel
theorem dL_law_1244 : decode cL_law 1244 = .ok (.invokestatic 204, 3) := by decide +kernel
theorem dL_law_1247 : decode cL_law 1247 = .ok (.istore 6, 2) := by decide +kernel
theorem dL_law_1249 : decode cL_law 1249 = .ok (.aload_n 2, 1) := by decide +kernel
theorem dL_law_1250 : decode cL_law 1250 = .ok (.aload_n 0, 1) := by decide +kernel
theorem dL_law_1251 : decode cL_law 1251 = .ok (.iload 5, 2) := by decide +kernel
theorem dL_law_1253 : decode cL_law 1253 = .ok (.iconst 1, 1) := by decide +kernel
theorem dL_law_1254 : decode cL_law 1254 = .ok (.iadd, 1) := by decide +kernel
theorem dL_law_1255 : decode cL_law 1255 = .ok (.iaload, 1) := by decide +kernel
theorem dL_law_1256 : decode cL_law 1256 = .ok (.aload_n 0, 1) := by decide +kernel
theorem dL_law_1257 : decode cL_law 1257 = .ok (.iload 5, 2) := by decide +kernel
theorem dL_law_1259 : decode cL_law 1259 = .ok (.iconst 2, 1) := by decide +kernel
theorem dL_law_1260 : decode cL_law 1260 = .ok (.iadd, 1) := by decide +kernel
theorem dL_law_1261 : decode cL_law 1261 = .ok (.iaload, 1) := by decide +kernel
theorem dL_law_1262 : decode cL_law 1262 = .ok (.ifCond .eq 7, 3) := by decide +kernel
theorem dL_law_1265 : decode cL_law 1265 = .ok (.iconst 1, 1) := by decide +kernel
theorem dL_law_1266 : decode cL_law 1266 = .ok (.goto 4, 3) := by decide +kernel
theorem dL_law_1269 : decode cL_law 1269 = .ok (.iconst 0, 1) := by decide +kernel
theorem dL_law_1270 : decode cL_law 1270 = .ok (.invokevirtual 207, 3) := by decide +kernel
theorem dL_law_1273 : decode cL_law 1273 = .ok (.istore 7, 2) := by decide +kernel
theorem dL_law_1275 : decode cL_law 1275 = .ok (.aload_n 2, 1) := by decide +kernel
theorem dL_law_1276 : decode cL_law 1276 = .ok (.invokevirtual 144, 3) := by decide +kernel
theorem dL_law_1279 : decode cL_law 1279 = .ok (.iload 6, 2) := by decide +kernel
theorem dL_law_1281 : decode cL_law 1281 = .ok (.if_icmp .eq 5, 3) := by decide +kernel
theorem dL_law_1284 : decode cL_law 1284 = .ok (.iconst 0, 1) := by decide +kernel
theorem dL_law_1285 : decode cL_law 1285 = .ok (.ireturn, 1) := by decide +kernel
theorem dL_law_1286 : decode cL_law 1286 = .ok (.iload 6, 2) := by decide +kernel
theorem dL_law_1288 : decode cL_law 1288 = .ok (.ifCond .ne 22, 3) := by decide +kernel
theorem dL_law_1291 : decode cL_law 1291 = .ok (.aload_n 3, 1) := by decide +kernel
theorem dL_law_1292 : decode cL_law 1292 = .ok (.iconst 0, 1) := by decide +kernel
theorem dL_law_1293 : decode cL_law 1293 = .ok (.laload, 1) := by decide +kernel
theorem dL_law_1294 : decode cL_law 1294 = .ok (.iload 7, 2) := by decide +kernel
theorem dL_law_1296 : decode cL_law 1296 = .ok (.ifCond .eq 7, 3) := by decide +kernel
theorem dL_law_1299 : decode cL_law 1299 = .ok (.lconst 1, 1) := by decide +kernel
theorem dL_law_1300 : decode cL_law 1300 = .ok (.goto 4, 3) := by decide +kernel
theorem dL_law_1303 : decode cL_law 1303 = .ok (.lconst 0, 1) := by decide +kernel
theorem dL_law_1304 : decode cL_law 1304 = .ok (.lcmp, 1) := by decide +kernel
theorem dL_law_1305 : decode cL_law 1305 = .ok (.ifCond .eq 5, 3) := by decide +kernel
theorem dL_law_1308 : decode cL_law 1308 = .ok (.iconst 0, 1) := by decide +kernel
theorem dL_law_1309 : decode cL_law 1309 = .ok (.ireturn, 1) := by decide +kernel
theorem dL_law_1310 : decode cL_law 1310 = .ok (.goto 1187, 3) := by decide +kernel
theorem dL_law_1313 : decode cL_law 1313 = .ok (.aload_n 1, 1) := by decide +kernel
theorem dL_law_1314 : decode cL_law 1314 = .ok (.aload_n 0, 1) := by decide +kernel
theorem dL_law_1315 : decode cL_law 1315 = .ok (.iload 5, 2) := by decide +kernel
theorem dL_law_1317 : decode cL_law 1317 = .ok (.iconst 1, 1) := by decide +kernel
theorem dL_law_1318 : decode cL_law 1318 = .ok (.iadd, 1) := by decide +kernel
theorem dL_law_1319 : decode cL_law 1319 = .ok (.iaload, 1) := by decide +kernel
theorem dL_law_1320 : decode cL_law 1320 = .ok (.aload_n 3, 1) := by decide +kernel
theorem dL_law_1321 : decode cL_law 1321 = .ok (.invokestatic 208, 3) := by decide +kernel
theorem dL_law_1324 : decode cL_law 1324 = .ok (.istore 6, 2) := by decide +kernel
theorem dL_law_1326 : decode cL_law 1326 = .ok (.aload_n 2, 1) := by decide +kernel
theorem dL_law_1327 : decode cL_law 1327 = .ok (.aload_n 0, 1) := by decide +kernel
theorem dL_law_1328 : decode cL_law 1328 = .ok (.iload 5, 2) := by decide +kernel
theorem dL_law_1330 : decode cL_law 1330 = .ok (.iconst 1, 1) := by decide +kernel
theorem dL_law_1331 : decode cL_law 1331 = .ok (.iadd, 1) := by decide +kernel
theorem dL_law_1332 : decode cL_law 1332 = .ok (.iaload, 1) := by decide +kernel
theorem dL_law_1333 : decode cL_law 1333 = .ok (.invokevirtual 210, 3) := by decide +kernel
theorem dL_law_1336 : decode cL_law 1336 = .ok (.istore 7, 2) := by decide +kernel
theorem dL_law_1338 : decode cL_law 1338 = .ok (.aload_n 2, 1) := by decide +kernel
theorem dL_law_1339 : decode cL_law 1339 = .ok (.invokevirtual 144, 3) := by decide +kernel
theorem dL_law_1342 : decode cL_law 1342 = .ok (.iload 6, 2) := by decide +kernel
theorem dL_law_1344 : decode cL_law 1344 = .ok (.if_icmp .eq 5, 3) := by decide +kernel
theorem dL_law_1347 : decode cL_law 1347 = .ok (.iconst 0, 1) := by decide +kernel
theorem dL_law_1348 : decode cL_law 1348 = .ok (.ireturn, 1) := by decide +kernel
theorem dL_law_1349 : decode cL_law 1349 = .ok (.iload 6, 2) := by decide +kernel
theorem dL_law_1351 : decode cL_law 1351 = .ok (.ifCond .ne 15, 3) := by decide +kernel
theorem dL_law_1354 : decode cL_law 1354 = .ok (.aload_n 3, 1) := by decide +kernel
theorem dL_law_1355 : decode cL_law 1355 = .ok (.iconst 0, 1) := by decide +kernel
theorem dL_law_1356 : decode cL_law 1356 = .ok (.laload, 1) := by decide +kernel
theorem dL_law_1357 : decode cL_law 1357 = .ok (.iload 7, 2) := by decide +kernel
theorem dL_law_1359 : decode cL_law 1359 = .ok (.i2l, 1) := by decide +kernel
theorem dL_law_1360 : decode cL_law 1360 = .ok (.lcmp, 1) := by decide +kernel
theorem dL_law_1361 : decode cL_law 1361 = .ok (.ifCond .eq 5, 3) := by decide +kernel
theorem dL_law_1364 : decode cL_law 1364 = .ok (.iconst 0, 1) := by decide +kernel
theorem dL_law_1365 : decode cL_law 1365 = .ok (.ireturn, 1) := by decide +kernel
theorem dL_law_1366 : decode cL_law 1366 = .ok (.goto 1131, 3) := by decide +kernel
theorem dL_law_1369 : decode cL_law 1369 = .ok (.aload_n 1, 1) := by decide +kernel
theorem dL_law_1370 : decode cL_law 1370 = .ok (.aload_n 0, 1) := by decide +kernel
theorem dL_law_1371 : decode cL_law 1371 = .ok (.iload 5, 2) := by decide +kernel
theorem dL_law_1373 : decode cL_law 1373 = .ok (.iconst 1, 1) := by decide +kernel
theorem dL_law_1374 : decode cL_law 1374 = .ok (.iadd, 1) := by decide +kernel
theorem dL_law_1375 : decode cL_law 1375 = .ok (.iaload, 1) := by decide +kernel
theorem dL_law_1376 : decode cL_law 1376 = .ok (.aload_n 3, 1) := by decide +kernel
theorem dL_law_1377 : decode cL_law 1377 = .ok (.invokestatic 211, 3) := by decide +kernel
theorem dL_law_1380 : decode cL_law 1380 = .ok (.istore 6, 2) := by decide +kernel
theorem dL_law_1382 : decode cL_law 1382 = .ok (.aload_n 2, 1) := by decide +kernel
theorem dL_law_1383 : decode cL_law 1383 = .ok (.aload_n 0, 1) := by decide +kernel
theorem dL_law_1384 : decode cL_law 1384 = .ok (.iload 5, 2) := by decide +kernel
theorem dL_law_1386 : decode cL_law 1386 = .ok (.iconst 1, 1) := by decide +kernel
theorem dL_law_1387 : decode cL_law 1387 = .ok (.iadd, 1) := by decide +kernel
theorem dL_law_1388 : decode cL_law 1388 = .ok (.iaload, 1) := by decide +kernel
theorem dL_law_1389 : decode cL_law 1389 = .ok (.invokevirtual 213, 3) := by decide +kernel
theorem dL_law_1392 : decode cL_law 1392 = .ok (.istore 7, 2) := by decide +kernel
theorem dL_law_1394 : decode cL_law 1394 = .ok (.aload_n 2, 1) := by decide +kernel
theorem dL_law_1395 : decode cL_law 1395 = .ok (.invokevirtual 144, 3) := by decide +kernel
theorem dL_law_1398 : decode cL_law 1398 = .ok (.iload 6, 2) := by decide +kernel
theorem dL_law_1400 : decode cL_law 1400 = .ok (.if_icmp .eq 5, 3) := by decide +kernel
theorem dL_law_1403 : decode cL_law 1403 = .ok (.iconst 0, 1) := by decide +kernel
theorem dL_law_1404 : decode cL_law 1404 = .ok (.ireturn, 1) := by decide +kernel
theorem dL_law_1405 : decode cL_law 1405 = .ok (.iload 6, 2) := by decide +kernel
theorem dL_law_1407 : decode cL_law 1407 = .ok (.ifCond .ne 15, 3) := by decide +kernel
theorem dL_law_1410 : decode cL_law 1410 = .ok (.aload_n 3, 1) := by decide +kernel
theorem dL_law_1411 : decode cL_law 1411 = .ok (.iconst 0, 1) := by decide +kernel
theorem dL_law_1412 : decode cL_law 1412 = .ok (.laload, 1) := by decide +kernel
theorem dL_law_1413 : decode cL_law 1413 = .ok (.iload 7, 2) := by decide +kernel
theorem dL_law_1415 : decode cL_law 1415 = .ok (.i2l, 1) := by decide +kernel
theorem dL_law_1416 : decode cL_law 1416 = .ok (.lcmp, 1) := by decide +kernel
theorem dL_law_1417 : decode cL_law 1417 = .ok (.ifCond .eq 5, 3) := by decide +kernel
theorem dL_law_1420 : decode cL_law 1420 = .ok (.iconst 0, 1) := by decide +kernel
theorem dL_law_1421 : decode cL_law 1421 = .ok (.ireturn, 1) := by decide +kernel
theorem dL_law_1422 : decode cL_law 1422 = .ok (.goto 1075, 3) := by decide +kernel
theorem dL_law_1425 : decode cL_law 1425 = .ok (.aload_n 1, 1) := by decide +kernel
theorem dL_law_1426 : decode cL_law 1426 = .ok (.aload_n 0, 1) := by decide +kernel
theorem dL_law_1427 : decode cL_law 1427 = .ok (.iload 5, 2) := by decide +kernel
theorem dL_law_1429 : decode cL_law 1429 = .ok (.iconst 1, 1) := by decide +kernel
theorem dL_law_1430 : decode cL_law 1430 = .ok (.iadd, 1) := by decide +kernel
theorem dL_law_1431 : decode cL_law 1431 = .ok (.iaload, 1) := by decide +kernel
theorem dL_law_1432 : decode cL_law 1432 = .ok (.aload_n 3, 1) := by decide +kernel
theorem dL_law_1433 : decode cL_law 1433 = .ok (.invokestatic 214, 3) := by decide +kernel
theorem dL_law_1436 : decode cL_law 1436 = .ok (.istore 6, 2) := by decide +kernel
theorem dL_law_1438 : decode cL_law 1438 = .ok (.aload_n 2, 1) := by decide +kernel
theorem dL_law_1439 : decode cL_law 1439 = .ok (.aload_n 0, 1) := by decide +kernel
theorem dL_law_1440 : decode cL_law 1440 = .ok (.iload 5, 2) := by decide +kernel
theorem dL_law_1442 : decode cL_law 1442 = .ok (.iconst 1, 1) := by decide +kernel
theorem dL_law_1443 : decode cL_law 1443 = .ok (.iadd, 1) := by decide +kernel
theorem dL_law_1444 : decode cL_law 1444 = .ok (.iaload, 1) := by decide +kernel
theorem dL_law_1445 : decode cL_law 1445 = .ok (.invokevirtual 216, 3) := by decide +kernel
theorem dL_law_1448 : decode cL_law 1448 = .ok (.istore 7, 2) := by decide +kernel
theorem dL_law_1450 : decode cL_law 1450 = .ok (.aload_n 2, 1) := by decide +kernel
theorem dL_law_1451 : decode cL_law 1451 = .ok (.invokevirtual 144, 3) := by decide +kernel
theorem dL_law_1454 : decode cL_law 1454 = .ok (.iload 6, 2) := by decide +kernel
theorem dL_law_1456 : decode cL_law 1456 = .ok (.if_icmp .eq 5, 3) := by decide +kernel
theorem dL_law_1459 : decode cL_law 1459 = .ok (.iconst 0, 1) := by decide +kernel
theorem dL_law_1460 : decode cL_law 1460 = .ok (.ireturn, 1) := by decide +kernel
theorem dL_law_1461 : decode cL_law 1461 = .ok (.iload 6, 2) := by decide +kernel
theorem dL_law_1463 : decode cL_law 1463 = .ok (.ifCond .ne 15, 3) := by decide +kernel
theorem dL_law_1466 : decode cL_law 1466 = .ok (.aload_n 3, 1) := by decide +kernel
theorem dL_law_1467 : decode cL_law 1467 = .ok (.iconst 0, 1) := by decide +kernel
theorem dL_law_1468 : decode cL_law 1468 = .ok (.laload, 1) := by decide +kernel
theorem dL_law_1469 : decode cL_law 1469 = .ok (.iload 7, 2) := by decide +kernel
theorem dL_law_1471 : decode cL_law 1471 = .ok (.i2l, 1) := by decide +kernel
theorem dL_law_1472 : decode cL_law 1472 = .ok (.lcmp, 1) := by decide +kernel
theorem dL_law_1473 : decode cL_law 1473 = .ok (.ifCond .eq 5, 3) := by decide +kernel
theorem dL_law_1476 : decode cL_law 1476 = .ok (.iconst 0, 1) := by decide +kernel
theorem dL_law_1477 : decode cL_law 1477 = .ok (.ireturn, 1) := by decide +kernel
theorem dL_law_1478 : decode cL_law 1478 = .ok (.goto 1019, 3) := by decide +kernel
theorem dL_law_1481 : decode cL_law 1481 = .ok (.aload_n 1, 1) := by decide +kernel
theorem dL_law_1482 : decode cL_law 1482 = .ok (.aload_n 0, 1) := by decide +kernel
theorem dL_law_1483 : decode cL_law 1483 = .ok (.iload 5, 2) := by decide +kernel
theorem dL_law_1485 : decode cL_law 1485 = .ok (.iconst 1, 1) := by decide +kernel
theorem dL_law_1486 : decode cL_law 1486 = .ok (.iadd, 1) := by decide +kernel
theorem dL_law_1487 : decode cL_law 1487 = .ok (.iaload, 1) := by decide +kernel
theorem dL_law_1488 : decode cL_law 1488 = .ok (.aload_n 3, 1) := by decide +kernel
theorem dL_law_1489 : decode cL_law 1489 = .ok (.invokestatic 217, 3) := by decide +kernel
theorem dL_law_1492 : decode cL_law 1492 = .ok (.istore 6, 2) := by decide +kernel
theorem dL_law_1494 : decode cL_law 1494 = .ok (.aload_n 2, 1) := by decide +kernel
theorem dL_law_1495 : decode cL_law 1495 = .ok (.aload_n 0, 1) := by decide +kernel
theorem dL_law_1496 : decode cL_law 1496 = .ok (.iload 5, 2) := by decide +kernel
theorem dL_law_1498 : decode cL_law 1498 = .ok (.iconst 1, 1) := by decide +kernel
theorem dL_law_1499 : decode cL_law 1499 = .ok (.iadd, 1) := by decide +kernel
theorem dL_law_1500 : decode cL_law 1500 = .ok (.iaload, 1) := by decide +kernel
theorem dL_law_1501 : decode cL_law 1501 = .ok (.invokevirtual 219, 3) := by decide +kernel
theorem dL_law_1504 : decode cL_law 1504 = .ok (.istore 7, 2) := by decide +kernel
theorem dL_law_1506 : decode cL_law 1506 = .ok (.aload_n 2, 1) := by decide +kernel
theorem dL_law_1507 : decode cL_law 1507 = .ok (.invokevirtual 144, 3) := by decide +kernel
theorem dL_law_1510 : decode cL_law 1510 = .ok (.iload 6, 2) := by decide +kernel
theorem dL_law_1512 : decode cL_law 1512 = .ok (.if_icmp .eq 5, 3) := by decide +kernel
theorem dL_law_1515 : decode cL_law 1515 = .ok (.iconst 0, 1) := by decide +kernel
theorem dL_law_1516 : decode cL_law 1516 = .ok (.ireturn, 1) := by decide +kernel
theorem dL_law_1517 : decode cL_law 1517 = .ok (.iload 6, 2) := by decide +kernel
theorem dL_law_1519 : decode cL_law 1519 = .ok (.ifCond .ne 15, 3) := by decide +kernel
theorem dL_law_1522 : decode cL_law 1522 = .ok (.aload_n 3, 1) := by decide +kernel
theorem dL_law_1523 : decode cL_law 1523 = .ok (.iconst 0, 1) := by decide +kernel
theorem dL_law_1524 : decode cL_law 1524 = .ok (.laload, 1) := by decide +kernel
theorem dL_law_1525 : decode cL_law 1525 = .ok (.iload 7, 2) := by decide +kernel
theorem dL_law_1527 : decode cL_law 1527 = .ok (.i2l, 1) := by decide +kernel
theorem dL_law_1528 : decode cL_law 1528 = .ok (.lcmp, 1) := by decide +kernel
theorem dL_law_1529 : decode cL_law 1529 = .ok (.ifCond .eq 5, 3) := by decide +kernel
theorem dL_law_1532 : decode cL_law 1532 = .ok (.iconst 0, 1) := by decide +kernel
theorem dL_law_1533 : decode cL_law 1533 = .ok (.ireturn, 1) := by decide +kernel
theorem dL_law_1534 : decode cL_law 1534 = .ok (.goto 963, 3) := by decide +kernel
theorem dL_law_1537 : decode cL_law 1537 = .ok (.aload_n 1, 1) := by decide +kernel
theorem dL_law_1538 : decode cL_law 1538 = .ok (.aload_n 0, 1) := by decide +kernel
theorem dL_law_1539 : decode cL_law 1539 = .ok (.iload 5, 2) := by decide +kernel
theorem dL_law_1541 : decode cL_law 1541 = .ok (.iconst 1, 1) := by decide +kernel
theorem dL_law_1542 : decode cL_law 1542 = .ok (.iadd, 1) := by decide +kernel
theorem dL_law_1543 : decode cL_law 1543 = .ok (.iaload, 1) := by decide +kernel
theorem dL_law_1544 : decode cL_law 1544 = .ok (.aload_n 3, 1) := by decide +kernel
theorem dL_law_1545 : decode cL_law 1545 = .ok (.invokestatic 220, 3) := by decide +kernel
theorem dL_law_1548 : decode cL_law 1548 = .ok (.istore 6, 2) := by decide +kernel
theorem dL_law_1550 : decode cL_law 1550 = .ok (.aload_n 2, 1) := by decide +kernel
theorem dL_law_1551 : decode cL_law 1551 = .ok (.aload_n 0, 1) := by decide +kernel
theorem dL_law_1552 : decode cL_law 1552 = .ok (.iload 5, 2) := by decide +kernel
theorem dL_law_1554 : decode cL_law 1554 = .ok (.iconst 1, 1) := by decide +kernel
theorem dL_law_1555 : decode cL_law 1555 = .ok (.iadd, 1) := by decide +kernel
theorem dL_law_1556 : decode cL_law 1556 = .ok (.iaload, 1) := by decide +kernel
theorem dL_law_1557 : decode cL_law 1557 = .ok (.invokevirtual 222, 3) := by decide +kernel
theorem dL_law_1560 : decode cL_law 1560 = .ok (.istore 7, 2) := by decide +kernel
theorem dL_law_1562 : decode cL_law 1562 = .ok (.aload_n 2, 1) := by decide +kernel
theorem dL_law_1563 : decode cL_law 1563 = .ok (.invokevirtual 144, 3) := by decide +kernel
theorem dL_law_1566 : decode cL_law 1566 = .ok (.iload 6, 2) := by decide +kernel
theorem dL_law_1568 : decode cL_law 1568 = .ok (.if_icmp .eq 5, 3) := by decide +kernel
theorem dL_law_1571 : decode cL_law 1571 = .ok (.iconst 0, 1) := by decide +kernel
theorem dL_law_1572 : decode cL_law 1572 = .ok (.ireturn, 1) := by decide +kernel
theorem dL_law_1573 : decode cL_law 1573 = .ok (.iload 6, 2) := by decide +kernel
theorem dL_law_1575 : decode cL_law 1575 = .ok (.ifCond .ne 15, 3) := by decide +kernel
theorem dL_law_1578 : decode cL_law 1578 = .ok (.aload_n 3, 1) := by decide +kernel
theorem dL_law_1579 : decode cL_law 1579 = .ok (.iconst 0, 1) := by decide +kernel
theorem dL_law_1580 : decode cL_law 1580 = .ok (.laload, 1) := by decide +kernel
theorem dL_law_1581 : decode cL_law 1581 = .ok (.iload 7, 2) := by decide +kernel
theorem dL_law_1583 : decode cL_law 1583 = .ok (.i2l, 1) := by decide +kernel
theorem dL_law_1584 : decode cL_law 1584 = .ok (.lcmp, 1) := by decide +kernel
theorem dL_law_1585 : decode cL_law 1585 = .ok (.ifCond .eq 5, 3) := by decide +kernel
theorem dL_law_1588 : decode cL_law 1588 = .ok (.iconst 0, 1) := by decide +kernel
theorem dL_law_1589 : decode cL_law 1589 = .ok (.ireturn, 1) := by decide +kernel
theorem dL_law_1590 : decode cL_law 1590 = .ok (.goto 907, 3) := by decide +kernel
theorem dL_law_1593 : decode cL_law 1593 = .ok (.aload_n 1, 1) := by decide +kernel
theorem dL_law_1594 : decode cL_law 1594 = .ok (.aload_n 0, 1) := by decide +kernel
theorem dL_law_1595 : decode cL_law 1595 = .ok (.iload 5, 2) := by decide +kernel
theorem dL_law_1597 : decode cL_law 1597 = .ok (.iconst 1, 1) := by decide +kernel
theorem dL_law_1598 : decode cL_law 1598 = .ok (.iadd, 1) := by decide +kernel
theorem dL_law_1599 : decode cL_law 1599 = .ok (.iaload, 1) := by decide +kernel
theorem dL_law_1600 : decode cL_law 1600 = .ok (.aload_n 3, 1) := by decide +kernel
theorem dL_law_1601 : decode cL_law 1601 = .ok (.invokestatic 223, 3) := by decide +kernel
theorem dL_law_1604 : decode cL_law 1604 = .ok (.istore 6, 2) := by decide +kernel
theorem dL_law_1606 : decode cL_law 1606 = .ok (.aload_n 2, 1) := by decide +kernel
theorem dL_law_1607 : decode cL_law 1607 = .ok (.aload_n 0, 1) := by decide +kernel
theorem dL_law_1608 : decode cL_law 1608 = .ok (.iload 5, 2) := by decide +kernel
theorem dL_law_1610 : decode cL_law 1610 = .ok (.iconst 1, 1) := by decide +kernel
theorem dL_law_1611 : decode cL_law 1611 = .ok (.iadd, 1) := by decide +kernel
theorem dL_law_1612 : decode cL_law 1612 = .ok (.iaload, 1) := by decide +kernel
theorem dL_law_1613 : decode cL_law 1613 = .ok (.invokevirtual 225, 3) := by decide +kernel
theorem dL_law_1616 : decode cL_law 1616 = .ok (.istore 7, 2) := by decide +kernel
theorem dL_law_1618 : decode cL_law 1618 = .ok (.aload_n 2, 1) := by decide +kernel
theorem dL_law_1619 : decode cL_law 1619 = .ok (.invokevirtual 144, 3) := by decide +kernel
theorem dL_law_1622 : decode cL_law 1622 = .ok (.iload 6, 2) := by decide +kernel
theorem dL_law_1624 : decode cL_law 1624 = .ok (.if_icmp .eq 5, 3) := by decide +kernel
theorem dL_law_1627 : decode cL_law 1627 = .ok (.iconst 0, 1) := by decide +kernel
theorem dL_law_1628 : decode cL_law 1628 = .ok (.ireturn, 1) := by decide +kernel
theorem dL_law_1629 : decode cL_law 1629 = .ok (.iload 6, 2) := by decide +kernel
theorem dL_law_1631 : decode cL_law 1631 = .ok (.ifCond .ne 15, 3) := by decide +kernel
theorem dL_law_1634 : decode cL_law 1634 = .ok (.aload_n 3, 1) := by decide +kernel
theorem dL_law_1635 : decode cL_law 1635 = .ok (.iconst 0, 1) := by decide +kernel
theorem dL_law_1636 : decode cL_law 1636 = .ok (.laload, 1) := by decide +kernel
theorem dL_law_1637 : decode cL_law 1637 = .ok (.iload 7, 2) := by decide +kernel
theorem dL_law_1639 : decode cL_law 1639 = .ok (.i2l, 1) := by decide +kernel
theorem dL_law_1640 : decode cL_law 1640 = .ok (.lcmp, 1) := by decide +kernel
theorem dL_law_1641 : decode cL_law 1641 = .ok (.ifCond .eq 5, 3) := by decide +kernel
theorem dL_law_1644 : decode cL_law 1644 = .ok (.iconst 0, 1) := by decide +kernel
theorem dL_law_1645 : decode cL_law 1645 = .ok (.ireturn, 1) := by decide +kernel
theorem dL_law_1646 : decode cL_law 1646 = .ok (.goto 851, 3) := by decide +kernel
theorem dL_law_1649 : decode cL_law 1649 = .ok (.aload_n 1, 1) := by decide +kernel
theorem dL_law_1650 : decode cL_law 1650 = .ok (.aload_n 0, 1) := by decide +kernel
theorem dL_law_1651 : decode cL_law 1651 = .ok (.iload 5, 2) := by decide +kernel
theorem dL_law_1653 : decode cL_law 1653 = .ok (.iconst 1, 1) := by decide +kernel
theorem dL_law_1654 : decode cL_law 1654 = .ok (.iadd, 1) := by decide +kernel
theorem dL_law_1655 : decode cL_law 1655 = .ok (.iaload, 1) := by decide +kernel
theorem dL_law_1656 : decode cL_law 1656 = .ok (.aload_n 0, 1) := by decide +kernel
theorem dL_law_1657 : decode cL_law 1657 = .ok (.iload 5, 2) := by decide +kernel
theorem dL_law_1659 : decode cL_law 1659 = .ok (.iconst 2, 1) := by decide +kernel
theorem dL_law_1660 : decode cL_law 1660 = .ok (.iadd, 1) := by decide +kernel
theorem dL_law_1661 : decode cL_law 1661 = .ok (.iaload, 1) := by decide +kernel
theorem dL_law_1662 : decode cL_law 1662 = .ok (.aload_n 3, 1) := by decide +kernel
theorem dL_law_1663 : decode cL_law 1663 = .ok (.invokestatic 226, 3) := by decide +kernel
theorem dL_law_1666 : decode cL_law 1666 = .ok (.istore 6, 2) := by decide +kernel
theorem dL_law_1668 : decode cL_law 1668 = .ok (.aload_n 2, 1) := by decide +kernel
theorem dL_law_1669 : decode cL_law 1669 = .ok (.aload_n 0, 1) := by decide +kernel
theorem dL_law_1670 : decode cL_law 1670 = .ok (.iload 5, 2) := by decide +kernel
theorem dL_law_1672 : decode cL_law 1672 = .ok (.iconst 1, 1) := by decide +kernel
theorem dL_law_1673 : decode cL_law 1673 = .ok (.iadd, 1) := by decide +kernel
theorem dL_law_1674 : decode cL_law 1674 = .ok (.iaload, 1) := by decide +kernel
theorem dL_law_1675 : decode cL_law 1675 = .ok (.aload_n 0, 1) := by decide +kernel
theorem dL_law_1676 : decode cL_law 1676 = .ok (.iload 5, 2) := by decide +kernel
theorem dL_law_1678 : decode cL_law 1678 = .ok (.iconst 2, 1) := by decide +kernel
theorem dL_law_1679 : decode cL_law 1679 = .ok (.iadd, 1) := by decide +kernel
theorem dL_law_1680 : decode cL_law 1680 = .ok (.iaload, 1) := by decide +kernel
theorem dL_law_1681 : decode cL_law 1681 = .ok (.invokevirtual 228, 3) := by decide +kernel
theorem dL_law_1684 : decode cL_law 1684 = .ok (.istore 7, 2) := by decide +kernel
theorem dL_law_1686 : decode cL_law 1686 = .ok (.aload_n 2, 1) := by decide +kernel
theorem dL_law_1687 : decode cL_law 1687 = .ok (.invokevirtual 144, 3) := by decide +kernel
theorem dL_law_1690 : decode cL_law 1690 = .ok (.iload 6, 2) := by decide +kernel
theorem dL_law_1692 : decode cL_law 1692 = .ok (.if_icmp .eq 5, 3) := by decide +kernel
theorem dL_law_1695 : decode cL_law 1695 = .ok (.iconst 0, 1) := by decide +kernel
theorem dL_law_1696 : decode cL_law 1696 = .ok (.ireturn, 1) := by decide +kernel
theorem dL_law_1697 : decode cL_law 1697 = .ok (.iload 6, 2) := by decide +kernel
theorem dL_law_1699 : decode cL_law 1699 = .ok (.ifCond .ne 15, 3) := by decide +kernel
theorem dL_law_1702 : decode cL_law 1702 = .ok (.aload_n 3, 1) := by decide +kernel
theorem dL_law_1703 : decode cL_law 1703 = .ok (.iconst 0, 1) := by decide +kernel
theorem dL_law_1704 : decode cL_law 1704 = .ok (.laload, 1) := by decide +kernel
theorem dL_law_1705 : decode cL_law 1705 = .ok (.iload 7, 2) := by decide +kernel
theorem dL_law_1707 : decode cL_law 1707 = .ok (.i2l, 1) := by decide +kernel
theorem dL_law_1708 : decode cL_law 1708 = .ok (.lcmp, 1) := by decide +kernel
theorem dL_law_1709 : decode cL_law 1709 = .ok (.ifCond .eq 5, 3) := by decide +kernel
theorem dL_law_1712 : decode cL_law 1712 = .ok (.iconst 0, 1) := by decide +kernel
theorem dL_law_1713 : decode cL_law 1713 = .ok (.ireturn, 1) := by decide +kernel
theorem dL_law_1714 : decode cL_law 1714 = .ok (.goto 783, 3) := by decide +kernel
theorem dL_law_1717 : decode cL_law 1717 = .ok (.aload_n 1, 1) := by decide +kernel
theorem dL_law_1718 : decode cL_law 1718 = .ok (.aload_n 0, 1) := by decide +kernel
theorem dL_law_1719 : decode cL_law 1719 = .ok (.iload 5, 2) := by decide +kernel
theorem dL_law_1721 : decode cL_law 1721 = .ok (.iconst 1, 1) := by decide +kernel
theorem dL_law_1722 : decode cL_law 1722 = .ok (.iadd, 1) := by decide +kernel
theorem dL_law_1723 : decode cL_law 1723 = .ok (.iaload, 1) := by decide +kernel
theorem dL_law_1724 : decode cL_law 1724 = .ok (.aload_n 3, 1) := by decide +kernel
theorem dL_law_1725 : decode cL_law 1725 = .ok (.invokestatic 229, 3) := by decide +kernel
theorem dL_law_1728 : decode cL_law 1728 = .ok (.istore 6, 2) := by decide +kernel
theorem dL_law_1730 : decode cL_law 1730 = .ok (.aload_n 2, 1) := by decide +kernel
theorem dL_law_1731 : decode cL_law 1731 = .ok (.aload_n 0, 1) := by decide +kernel
theorem dL_law_1732 : decode cL_law 1732 = .ok (.iload 5, 2) := by decide +kernel
theorem dL_law_1734 : decode cL_law 1734 = .ok (.iconst 1, 1) := by decide +kernel
theorem dL_law_1735 : decode cL_law 1735 = .ok (.iadd, 1) := by decide +kernel
theorem dL_law_1736 : decode cL_law 1736 = .ok (.iaload, 1) := by decide +kernel
theorem dL_law_1737 : decode cL_law 1737 = .ok (.invokevirtual 231, 3) := by decide +kernel
theorem dL_law_1740 : decode cL_law 1740 = .ok (.istore 7, 2) := by decide +kernel
theorem dL_law_1742 : decode cL_law 1742 = .ok (.aload_n 2, 1) := by decide +kernel
theorem dL_law_1743 : decode cL_law 1743 = .ok (.invokevirtual 144, 3) := by decide +kernel
theorem dL_law_1746 : decode cL_law 1746 = .ok (.iload 6, 2) := by decide +kernel
theorem dL_law_1748 : decode cL_law 1748 = .ok (.if_icmp .eq 5, 3) := by decide +kernel
theorem dL_law_1751 : decode cL_law 1751 = .ok (.iconst 0, 1) := by decide +kernel
theorem dL_law_1752 : decode cL_law 1752 = .ok (.ireturn, 1) := by decide +kernel
theorem dL_law_1753 : decode cL_law 1753 = .ok (.iload 6, 2) := by decide +kernel
theorem dL_law_1755 : decode cL_law 1755 = .ok (.ifCond .ne 15, 3) := by decide +kernel
theorem dL_law_1758 : decode cL_law 1758 = .ok (.aload_n 3, 1) := by decide +kernel
theorem dL_law_1759 : decode cL_law 1759 = .ok (.iconst 0, 1) := by decide +kernel
theorem dL_law_1760 : decode cL_law 1760 = .ok (.laload, 1) := by decide +kernel
theorem dL_law_1761 : decode cL_law 1761 = .ok (.iload 7, 2) := by decide +kernel
theorem dL_law_1763 : decode cL_law 1763 = .ok (.i2l, 1) := by decide +kernel
theorem dL_law_1764 : decode cL_law 1764 = .ok (.lcmp, 1) := by decide +kernel
theorem dL_law_1765 : decode cL_law 1765 = .ok (.ifCond .eq 5, 3) := by decide +kernel
theorem dL_law_1768 : decode cL_law 1768 = .ok (.iconst 0, 1) := by decide +kernel
theorem dL_law_1769 : decode cL_law 1769 = .ok (.ireturn, 1) := by decide +kernel
theorem dL_law_1770 : decode cL_law 1770 = .ok (.goto 727, 3) := by decide +kernel
theorem dL_law_1773 : decode cL_law 1773 = .ok (.aload_n 1, 1) := by decide +kernel
theorem dL_law_1774 : decode cL_law 1774 = .ok (.aload_n 0, 1) := by decide +kernel
theorem dL_law_1775 : decode cL_law 1775 = .ok (.iload 5, 2) := by decide +kernel
theorem dL_law_1777 : decode cL_law 1777 = .ok (.iconst 1, 1) := by decide +kernel
theorem dL_law_1778 : decode cL_law 1778 = .ok (.iadd, 1) := by decide +kernel
theorem dL_law_1779 : decode cL_law 1779 = .ok (.iaload, 1) := by decide +kernel
theorem dL_law_1780 : decode cL_law 1780 = .ok (.aload_n 3, 1) := by decide +kernel
theorem dL_law_1781 : decode cL_law 1781 = .ok (.invokestatic 232, 3) := by decide +kernel
theorem dL_law_1784 : decode cL_law 1784 = .ok (.istore 6, 2) := by decide +kernel
theorem dL_law_1786 : decode cL_law 1786 = .ok (.aload_n 2, 1) := by decide +kernel
theorem dL_law_1787 : decode cL_law 1787 = .ok (.aload_n 0, 1) := by decide +kernel
theorem dL_law_1788 : decode cL_law 1788 = .ok (.iload 5, 2) := by decide +kernel
theorem dL_law_1790 : decode cL_law 1790 = .ok (.iconst 1, 1) := by decide +kernel
theorem dL_law_1791 : decode cL_law 1791 = .ok (.iadd, 1) := by decide +kernel
theorem dL_law_1792 : decode cL_law 1792 = .ok (.iaload, 1) := by decide +kernel
theorem dL_law_1793 : decode cL_law 1793 = .ok (.invokevirtual 234, 3) := by decide +kernel
theorem dL_law_1796 : decode cL_law 1796 = .ok (.istore 7, 2) := by decide +kernel
theorem dL_law_1798 : decode cL_law 1798 = .ok (.aload_n 2, 1) := by decide +kernel
theorem dL_law_1799 : decode cL_law 1799 = .ok (.invokevirtual 144, 3) := by decide +kernel
theorem dL_law_1802 : decode cL_law 1802 = .ok (.iload 6, 2) := by decide +kernel
theorem dL_law_1804 : decode cL_law 1804 = .ok (.if_icmp .eq 5, 3) := by decide +kernel
theorem dL_law_1807 : decode cL_law 1807 = .ok (.iconst 0, 1) := by decide +kernel
theorem dL_law_1808 : decode cL_law 1808 = .ok (.ireturn, 1) := by decide +kernel
theorem dL_law_1809 : decode cL_law 1809 = .ok (.iload 6, 2) := by decide +kernel
theorem dL_law_1811 : decode cL_law 1811 = .ok (.ifCond .ne 15, 3) := by decide +kernel
theorem dL_law_1814 : decode cL_law 1814 = .ok (.aload_n 3, 1) := by decide +kernel
theorem dL_law_1815 : decode cL_law 1815 = .ok (.iconst 0, 1) := by decide +kernel
theorem dL_law_1816 : decode cL_law 1816 = .ok (.laload, 1) := by decide +kernel
theorem dL_law_1817 : decode cL_law 1817 = .ok (.iload 7, 2) := by decide +kernel
theorem dL_law_1819 : decode cL_law 1819 = .ok (.i2l, 1) := by decide +kernel
theorem dL_law_1820 : decode cL_law 1820 = .ok (.lcmp, 1) := by decide +kernel
theorem dL_law_1821 : decode cL_law 1821 = .ok (.ifCond .eq 5, 3) := by decide +kernel
theorem dL_law_1824 : decode cL_law 1824 = .ok (.iconst 0, 1) := by decide +kernel
theorem dL_law_1825 : decode cL_law 1825 = .ok (.ireturn, 1) := by decide +kernel
theorem dL_law_1826 : decode cL_law 1826 = .ok (.goto 671, 3) := by decide +kernel
theorem dL_law_1829 : decode cL_law 1829 = .ok (.aload_n 1, 1) := by decide +kernel
theorem dL_law_1830 : decode cL_law 1830 = .ok (.aload_n 0, 1) := by decide +kernel
theorem dL_law_1831 : decode cL_law 1831 = .ok (.iload 5, 2) := by decide +kernel
theorem dL_law_1833 : decode cL_law 1833 = .ok (.iconst 1, 1) := by decide +kernel
theorem dL_law_1834 : decode cL_law 1834 = .ok (.iadd, 1) := by decide +kernel
theorem dL_law_1835 : decode cL_law 1835 = .ok (.iaload, 1) := by decide +kernel
theorem dL_law_1836 : decode cL_law 1836 = .ok (.aload_n 3, 1) := by decide +kernel
theorem dL_law_1837 : decode cL_law 1837 = .ok (.invokestatic 235, 3) := by decide +kernel
theorem dL_law_1840 : decode cL_law 1840 = .ok (.istore 6, 2) := by decide +kernel
theorem dL_law_1842 : decode cL_law 1842 = .ok (.aload_n 2, 1) := by decide +kernel
theorem dL_law_1843 : decode cL_law 1843 = .ok (.aload_n 0, 1) := by decide +kernel
theorem dL_law_1844 : decode cL_law 1844 = .ok (.iload 5, 2) := by decide +kernel
theorem dL_law_1846 : decode cL_law 1846 = .ok (.iconst 1, 1) := by decide +kernel
theorem dL_law_1847 : decode cL_law 1847 = .ok (.iadd, 1) := by decide +kernel
theorem dL_law_1848 : decode cL_law 1848 = .ok (.iaload, 1) := by decide +kernel
theorem dL_law_1849 : decode cL_law 1849 = .ok (.invokevirtual 237, 3) := by decide +kernel
theorem dL_law_1852 : decode cL_law 1852 = .ok (.istore 7, 2) := by decide +kernel
theorem dL_law_1854 : decode cL_law 1854 = .ok (.aload_n 2, 1) := by decide +kernel
theorem dL_law_1855 : decode cL_law 1855 = .ok (.invokevirtual 144, 3) := by decide +kernel
theorem dL_law_1858 : decode cL_law 1858 = .ok (.iload 6, 2) := by decide +kernel
theorem dL_law_1860 : decode cL_law 1860 = .ok (.if_icmp .eq 5, 3) := by decide +kernel
theorem dL_law_1863 : decode cL_law 1863 = .ok (.iconst 0, 1) := by decide +kernel
theorem dL_law_1864 : decode cL_law 1864 = .ok (.ireturn, 1) := by decide +kernel
theorem dL_law_1865 : decode cL_law 1865 = .ok (.iload 6, 2) := by decide +kernel
theorem dL_law_1867 : decode cL_law 1867 = .ok (.ifCond .ne 15, 3) := by decide +kernel
theorem dL_law_1870 : decode cL_law 1870 = .ok (.aload_n 3, 1) := by decide +kernel
theorem dL_law_1871 : decode cL_law 1871 = .ok (.iconst 0, 1) := by decide +kernel
theorem dL_law_1872 : decode cL_law 1872 = .ok (.laload, 1) := by decide +kernel
theorem dL_law_1873 : decode cL_law 1873 = .ok (.iload 7, 2) := by decide +kernel
theorem dL_law_1875 : decode cL_law 1875 = .ok (.i2l, 1) := by decide +kernel
theorem dL_law_1876 : decode cL_law 1876 = .ok (.lcmp, 1) := by decide +kernel
theorem dL_law_1877 : decode cL_law 1877 = .ok (.ifCond .eq 5, 3) := by decide +kernel
theorem dL_law_1880 : decode cL_law 1880 = .ok (.iconst 0, 1) := by decide +kernel
theorem dL_law_1881 : decode cL_law 1881 = .ok (.ireturn, 1) := by decide +kernel
theorem dL_law_1882 : decode cL_law 1882 = .ok (.goto 615, 3) := by decide +kernel
theorem dL_law_1885 : decode cL_law 1885 = .ok (.aload_n 1, 1) := by decide +kernel
theorem dL_law_1886 : decode cL_law 1886 = .ok (.aload_n 0, 1) := by decide +kernel
theorem dL_law_1887 : decode cL_law 1887 = .ok (.iload 5, 2) := by decide +kernel
theorem dL_law_1889 : decode cL_law 1889 = .ok (.iconst 1, 1) := by decide +kernel
theorem dL_law_1890 : decode cL_law 1890 = .ok (.iadd, 1) := by decide +kernel
theorem dL_law_1891 : decode cL_law 1891 = .ok (.iaload, 1) := by decide +kernel
theorem dL_law_1892 : decode cL_law 1892 = .ok (.aload_n 0, 1) := by decide +kernel
theorem dL_law_1893 : decode cL_law 1893 = .ok (.iload 5, 2) := by decide +kernel
theorem dL_law_1895 : decode cL_law 1895 = .ok (.iconst 2, 1) := by decide +kernel
theorem dL_law_1896 : decode cL_law 1896 = .ok (.iadd, 1) := by decide +kernel
theorem dL_law_1897 : decode cL_law 1897 = .ok (.iaload, 1) := by decide +kernel
theorem dL_law_1898 : decode cL_law 1898 = .ok (.aload_n 3, 1) := by decide +kernel
theorem dL_law_1899 : decode cL_law 1899 = .ok (.invokestatic 238, 3) := by decide +kernel
theorem dL_law_1902 : decode cL_law 1902 = .ok (.istore 6, 2) := by decide +kernel
theorem dL_law_1904 : decode cL_law 1904 = .ok (.aload_n 2, 1) := by decide +kernel
theorem dL_law_1905 : decode cL_law 1905 = .ok (.aload_n 0, 1) := by decide +kernel
theorem dL_law_1906 : decode cL_law 1906 = .ok (.iload 5, 2) := by decide +kernel
theorem dL_law_1908 : decode cL_law 1908 = .ok (.iconst 1, 1) := by decide +kernel
theorem dL_law_1909 : decode cL_law 1909 = .ok (.iadd, 1) := by decide +kernel
theorem dL_law_1910 : decode cL_law 1910 = .ok (.iaload, 1) := by decide +kernel
theorem dL_law_1911 : decode cL_law 1911 = .ok (.aload_n 0, 1) := by decide +kernel
theorem dL_law_1912 : decode cL_law 1912 = .ok (.iload 5, 2) := by decide +kernel
theorem dL_law_1914 : decode cL_law 1914 = .ok (.iconst 2, 1) := by decide +kernel
theorem dL_law_1915 : decode cL_law 1915 = .ok (.iadd, 1) := by decide +kernel
theorem dL_law_1916 : decode cL_law 1916 = .ok (.iaload, 1) := by decide +kernel
theorem dL_law_1917 : decode cL_law 1917 = .ok (.invokevirtual 240, 3) := by decide +kernel
theorem dL_law_1920 : decode cL_law 1920 = .ok (.istore 7, 2) := by decide +kernel
theorem dL_law_1922 : decode cL_law 1922 = .ok (.aload_n 2, 1) := by decide +kernel
theorem dL_law_1923 : decode cL_law 1923 = .ok (.invokevirtual 144, 3) := by decide +kernel
theorem dL_law_1926 : decode cL_law 1926 = .ok (.iload 6, 2) := by decide +kernel
theorem dL_law_1928 : decode cL_law 1928 = .ok (.if_icmp .eq 5, 3) := by decide +kernel
theorem dL_law_1931 : decode cL_law 1931 = .ok (.iconst 0, 1) := by decide +kernel
theorem dL_law_1932 : decode cL_law 1932 = .ok (.ireturn, 1) := by decide +kernel
theorem dL_law_1933 : decode cL_law 1933 = .ok (.iload 6, 2) := by decide +kernel
theorem dL_law_1935 : decode cL_law 1935 = .ok (.ifCond .ne 15, 3) := by decide +kernel
theorem dL_law_1938 : decode cL_law 1938 = .ok (.aload_n 3, 1) := by decide +kernel
theorem dL_law_1939 : decode cL_law 1939 = .ok (.iconst 0, 1) := by decide +kernel
theorem dL_law_1940 : decode cL_law 1940 = .ok (.laload, 1) := by decide +kernel
theorem dL_law_1941 : decode cL_law 1941 = .ok (.iload 7, 2) := by decide +kernel
theorem dL_law_1943 : decode cL_law 1943 = .ok (.i2l, 1) := by decide +kernel
theorem dL_law_1944 : decode cL_law 1944 = .ok (.lcmp, 1) := by decide +kernel
theorem dL_law_1945 : decode cL_law 1945 = .ok (.ifCond .eq 5, 3) := by decide +kernel
theorem dL_law_1948 : decode cL_law 1948 = .ok (.iconst 0, 1) := by decide +kernel
theorem dL_law_1949 : decode cL_law 1949 = .ok (.ireturn, 1) := by decide +kernel
theorem dL_law_1950 : decode cL_law 1950 = .ok (.goto 547, 3) := by decide +kernel
theorem dL_law_1953 : decode cL_law 1953 = .ok (.aload_n 1, 1) := by decide +kernel
theorem dL_law_1954 : decode cL_law 1954 = .ok (.aload_n 0, 1) := by decide +kernel
theorem dL_law_1955 : decode cL_law 1955 = .ok (.iload 5, 2) := by decide +kernel
theorem dL_law_1957 : decode cL_law 1957 = .ok (.iconst 1, 1) := by decide +kernel
theorem dL_law_1958 : decode cL_law 1958 = .ok (.iadd, 1) := by decide +kernel
theorem dL_law_1959 : decode cL_law 1959 = .ok (.iaload, 1) := by decide +kernel
theorem dL_law_1960 : decode cL_law 1960 = .ok (.aload_n 3, 1) := by decide +kernel
theorem dL_law_1961 : decode cL_law 1961 = .ok (.invokestatic 241, 3) := by decide +kernel
theorem dL_law_1964 : decode cL_law 1964 = .ok (.istore 6, 2) := by decide +kernel
theorem dL_law_1966 : decode cL_law 1966 = .ok (.aload_n 2, 1) := by decide +kernel
theorem dL_law_1967 : decode cL_law 1967 = .ok (.aload_n 0, 1) := by decide +kernel
theorem dL_law_1968 : decode cL_law 1968 = .ok (.iload 5, 2) := by decide +kernel
theorem dL_law_1970 : decode cL_law 1970 = .ok (.iconst 1, 1) := by decide +kernel
theorem dL_law_1971 : decode cL_law 1971 = .ok (.iadd, 1) := by decide +kernel
theorem dL_law_1972 : decode cL_law 1972 = .ok (.iaload, 1) := by decide +kernel
theorem dL_law_1973 : decode cL_law 1973 = .ok (.invokevirtual 243, 3) := by decide +kernel
theorem dL_law_1976 : decode cL_law 1976 = .ok (.istore 7, 2) := by decide +kernel
theorem dL_law_1978 : decode cL_law 1978 = .ok (.aload_n 2, 1) := by decide +kernel
theorem dL_law_1979 : decode cL_law 1979 = .ok (.invokevirtual 144, 3) := by decide +kernel
theorem dL_law_1982 : decode cL_law 1982 = .ok (.iload 6, 2) := by decide +kernel
theorem dL_law_1984 : decode cL_law 1984 = .ok (.if_icmp .eq 5, 3) := by decide +kernel
theorem dL_law_1987 : decode cL_law 1987 = .ok (.iconst 0, 1) := by decide +kernel
theorem dL_law_1988 : decode cL_law 1988 = .ok (.ireturn, 1) := by decide +kernel
theorem dL_law_1989 : decode cL_law 1989 = .ok (.iload 6, 2) := by decide +kernel
theorem dL_law_1991 : decode cL_law 1991 = .ok (.ifCond .ne 15, 3) := by decide +kernel
theorem dL_law_1994 : decode cL_law 1994 = .ok (.aload_n 3, 1) := by decide +kernel
theorem dL_law_1995 : decode cL_law 1995 = .ok (.iconst 0, 1) := by decide +kernel
theorem dL_law_1996 : decode cL_law 1996 = .ok (.laload, 1) := by decide +kernel
theorem dL_law_1997 : decode cL_law 1997 = .ok (.iload 7, 2) := by decide +kernel
theorem dL_law_1999 : decode cL_law 1999 = .ok (.i2l, 1) := by decide +kernel
theorem dL_law_2000 : decode cL_law 2000 = .ok (.lcmp, 1) := by decide +kernel
theorem dL_law_2001 : decode cL_law 2001 = .ok (.ifCond .eq 5, 3) := by decide +kernel
theorem dL_law_2004 : decode cL_law 2004 = .ok (.iconst 0, 1) := by decide +kernel
theorem dL_law_2005 : decode cL_law 2005 = .ok (.ireturn, 1) := by decide +kernel
theorem dL_law_2006 : decode cL_law 2006 = .ok (.goto 491, 3) := by decide +kernel
theorem dL_law_2009 : decode cL_law 2009 = .ok (.aload_n 1, 1) := by decide +kernel
theorem dL_law_2010 : decode cL_law 2010 = .ok (.aload_n 0, 1) := by decide +kernel
theorem dL_law_2011 : decode cL_law 2011 = .ok (.iload 5, 2) := by decide +kernel
theorem dL_law_2013 : decode cL_law 2013 = .ok (.iconst 1, 1) := by decide +kernel
theorem dL_law_2014 : decode cL_law 2014 = .ok (.iadd, 1) := by decide +kernel
theorem dL_law_2015 : decode cL_law 2015 = .ok (.iaload, 1) := by decide +kernel
theorem dL_law_2016 : decode cL_law 2016 = .ok (.aload_n 0, 1) := by decide +kernel
theorem dL_law_2017 : decode cL_law 2017 = .ok (.iload 5, 2) := by decide +kernel
theorem dL_law_2019 : decode cL_law 2019 = .ok (.iconst 2, 1) := by decide +kernel
theorem dL_law_2020 : decode cL_law 2020 = .ok (.iadd, 1) := by decide +kernel
theorem dL_law_2021 : decode cL_law 2021 = .ok (.iaload, 1) := by decide +kernel
theorem dL_law_2022 : decode cL_law 2022 = .ok (.aload_n 3, 1) := by decide +kernel
theorem dL_law_2023 : decode cL_law 2023 = .ok (.invokestatic 244, 3) := by decide +kernel
theorem dL_law_2026 : decode cL_law 2026 = .ok (.istore 6, 2) := by decide +kernel
theorem dL_law_2028 : decode cL_law 2028 = .ok (.aload_n 2, 1) := by decide +kernel
theorem dL_law_2029 : decode cL_law 2029 = .ok (.aload_n 0, 1) := by decide +kernel
theorem dL_law_2030 : decode cL_law 2030 = .ok (.iload 5, 2) := by decide +kernel
theorem dL_law_2032 : decode cL_law 2032 = .ok (.iconst 1, 1) := by decide +kernel
theorem dL_law_2033 : decode cL_law 2033 = .ok (.iadd, 1) := by decide +kernel
theorem dL_law_2034 : decode cL_law 2034 = .ok (.iaload, 1) := by decide +kernel
theorem dL_law_2035 : decode cL_law 2035 = .ok (.aload_n 0, 1) := by decide +kernel
theorem dL_law_2036 : decode cL_law 2036 = .ok (.iload 5, 2) := by decide +kernel
theorem dL_law_2038 : decode cL_law 2038 = .ok (.iconst 2, 1) := by decide +kernel
theorem dL_law_2039 : decode cL_law 2039 = .ok (.iadd, 1) := by decide +kernel
theorem dL_law_2040 : decode cL_law 2040 = .ok (.iaload, 1) := by decide +kernel
theorem dL_law_2041 : decode cL_law 2041 = .ok (.invokevirtual 246, 3) := by decide +kernel
theorem dL_law_2044 : decode cL_law 2044 = .ok (.istore 7, 2) := by decide +kernel
theorem dL_law_2046 : decode cL_law 2046 = .ok (.aload_n 2, 1) := by decide +kernel
theorem dL_law_2047 : decode cL_law 2047 = .ok (.invokevirtual 144, 3) := by decide +kernel
theorem dL_law_2050 : decode cL_law 2050 = .ok (.iload 6, 2) := by decide +kernel
theorem dL_law_2052 : decode cL_law 2052 = .ok (.if_icmp .eq 5, 3) := by decide +kernel
theorem dL_law_2055 : decode cL_law 2055 = .ok (.iconst 0, 1) := by decide +kernel
theorem dL_law_2056 : decode cL_law 2056 = .ok (.ireturn, 1) := by decide +kernel
theorem dL_law_2057 : decode cL_law 2057 = .ok (.iload 6, 2) := by decide +kernel
theorem dL_law_2059 : decode cL_law 2059 = .ok (.ifCond .ne 15, 3) := by decide +kernel
theorem dL_law_2062 : decode cL_law 2062 = .ok (.aload_n 3, 1) := by decide +kernel
theorem dL_law_2063 : decode cL_law 2063 = .ok (.iconst 0, 1) := by decide +kernel
theorem dL_law_2064 : decode cL_law 2064 = .ok (.laload, 1) := by decide +kernel
theorem dL_law_2065 : decode cL_law 2065 = .ok (.iload 7, 2) := by decide +kernel
theorem dL_law_2067 : decode cL_law 2067 = .ok (.i2l, 1) := by decide +kernel
theorem dL_law_2068 : decode cL_law 2068 = .ok (.lcmp, 1) := by decide +kernel
theorem dL_law_2069 : decode cL_law 2069 = .ok (.ifCond .eq 5, 3) := by decide +kernel
theorem dL_law_2072 : decode cL_law 2072 = .ok (.iconst 0, 1) := by decide +kernel
theorem dL_law_2073 : decode cL_law 2073 = .ok (.ireturn, 1) := by decide +kernel
theorem dL_law_2074 : decode cL_law 2074 = .ok (.goto 423, 3) := by decide +kernel
theorem dL_law_2077 : decode cL_law 2077 = .ok (.aload_n 1, 1) := by decide +kernel
theorem dL_law_2078 : decode cL_law 2078 = .ok (.aload_n 0, 1) := by decide +kernel
theorem dL_law_2079 : decode cL_law 2079 = .ok (.iload 5, 2) := by decide +kernel
theorem dL_law_2081 : decode cL_law 2081 = .ok (.iconst 1, 1) := by decide +kernel
theorem dL_law_2082 : decode cL_law 2082 = .ok (.iadd, 1) := by decide +kernel
theorem dL_law_2083 : decode cL_law 2083 = .ok (.iaload, 1) := by decide +kernel
theorem dL_law_2084 : decode cL_law 2084 = .ok (.aload_n 3, 1) := by decide +kernel
theorem dL_law_2085 : decode cL_law 2085 = .ok (.invokestatic 247, 3) := by decide +kernel
theorem dL_law_2088 : decode cL_law 2088 = .ok (.istore 6, 2) := by decide +kernel
theorem dL_law_2090 : decode cL_law 2090 = .ok (.aload_n 2, 1) := by decide +kernel
theorem dL_law_2091 : decode cL_law 2091 = .ok (.aload_n 0, 1) := by decide +kernel
theorem dL_law_2092 : decode cL_law 2092 = .ok (.iload 5, 2) := by decide +kernel
theorem dL_law_2094 : decode cL_law 2094 = .ok (.iconst 1, 1) := by decide +kernel
theorem dL_law_2095 : decode cL_law 2095 = .ok (.iadd, 1) := by decide +kernel
theorem dL_law_2096 : decode cL_law 2096 = .ok (.iaload, 1) := by decide +kernel
theorem dL_law_2097 : decode cL_law 2097 = .ok (.invokevirtual 249, 3) := by decide +kernel
theorem dL_law_2100 : decode cL_law 2100 = .ok (.istore 7, 2) := by decide +kernel
theorem dL_law_2102 : decode cL_law 2102 = .ok (.aload_n 2, 1) := by decide +kernel
theorem dL_law_2103 : decode cL_law 2103 = .ok (.invokevirtual 144, 3) := by decide +kernel
theorem dL_law_2106 : decode cL_law 2106 = .ok (.iload 6, 2) := by decide +kernel
theorem dL_law_2108 : decode cL_law 2108 = .ok (.if_icmp .eq 5, 3) := by decide +kernel
theorem dL_law_2111 : decode cL_law 2111 = .ok (.iconst 0, 1) := by decide +kernel
theorem dL_law_2112 : decode cL_law 2112 = .ok (.ireturn, 1) := by decide +kernel
theorem dL_law_2113 : decode cL_law 2113 = .ok (.iload 6, 2) := by decide +kernel
theorem dL_law_2115 : decode cL_law 2115 = .ok (.ifCond .ne 15, 3) := by decide +kernel
theorem dL_law_2118 : decode cL_law 2118 = .ok (.aload_n 3, 1) := by decide +kernel
theorem dL_law_2119 : decode cL_law 2119 = .ok (.iconst 0, 1) := by decide +kernel
theorem dL_law_2120 : decode cL_law 2120 = .ok (.laload, 1) := by decide +kernel
theorem dL_law_2121 : decode cL_law 2121 = .ok (.iload 7, 2) := by decide +kernel
theorem dL_law_2123 : decode cL_law 2123 = .ok (.i2l, 1) := by decide +kernel
theorem dL_law_2124 : decode cL_law 2124 = .ok (.lcmp, 1) := by decide +kernel
theorem dL_law_2125 : decode cL_law 2125 = .ok (.ifCond .eq 5, 3) := by decide +kernel
theorem dL_law_2128 : decode cL_law 2128 = .ok (.iconst 0, 1) := by decide +kernel
theorem dL_law_2129 : decode cL_law 2129 = .ok (.ireturn, 1) := by decide +kernel
theorem dL_law_2130 : decode cL_law 2130 = .ok (.goto 367, 3) := by decide +kernel
theorem dL_law_2133 : decode cL_law 2133 = .ok (.aload_n 1, 1) := by decide +kernel
theorem dL_law_2134 : decode cL_law 2134 = .ok (.aload_n 0, 1) := by decide +kernel
theorem dL_law_2135 : decode cL_law 2135 = .ok (.iload 5, 2) := by decide +kernel
theorem dL_law_2137 : decode cL_law 2137 = .ok (.iconst 1, 1) := by decide +kernel
theorem dL_law_2138 : decode cL_law 2138 = .ok (.iadd, 1) := by decide +kernel
theorem dL_law_2139 : decode cL_law 2139 = .ok (.iaload, 1) := by decide +kernel
theorem dL_law_2140 : decode cL_law 2140 = .ok (.aload_n 0, 1) := by decide +kernel
theorem dL_law_2141 : decode cL_law 2141 = .ok (.iload 5, 2) := by decide +kernel
theorem dL_law_2143 : decode cL_law 2143 = .ok (.iconst 2, 1) := by decide +kernel
theorem dL_law_2144 : decode cL_law 2144 = .ok (.iadd, 1) := by decide +kernel
theorem dL_law_2145 : decode cL_law 2145 = .ok (.iaload, 1) := by decide +kernel
theorem dL_law_2146 : decode cL_law 2146 = .ok (.aload_n 3, 1) := by decide +kernel
theorem dL_law_2147 : decode cL_law 2147 = .ok (.invokestatic 250, 3) := by decide +kernel
theorem dL_law_2150 : decode cL_law 2150 = .ok (.istore 6, 2) := by decide +kernel
theorem dL_law_2152 : decode cL_law 2152 = .ok (.aload_n 2, 1) := by decide +kernel
theorem dL_law_2153 : decode cL_law 2153 = .ok (.aload_n 0, 1) := by decide +kernel
theorem dL_law_2154 : decode cL_law 2154 = .ok (.iload 5, 2) := by decide +kernel
theorem dL_law_2156 : decode cL_law 2156 = .ok (.iconst 1, 1) := by decide +kernel
theorem dL_law_2157 : decode cL_law 2157 = .ok (.iadd, 1) := by decide +kernel
theorem dL_law_2158 : decode cL_law 2158 = .ok (.iaload, 1) := by decide +kernel
theorem dL_law_2159 : decode cL_law 2159 = .ok (.aload_n 0, 1) := by decide +kernel
theorem dL_law_2160 : decode cL_law 2160 = .ok (.iload 5, 2) := by decide +kernel
theorem dL_law_2162 : decode cL_law 2162 = .ok (.iconst 2, 1) := by decide +kernel
theorem dL_law_2163 : decode cL_law 2163 = .ok (.iadd, 1) := by decide +kernel
theorem dL_law_2164 : decode cL_law 2164 = .ok (.iaload, 1) := by decide +kernel
theorem dL_law_2165 : decode cL_law 2165 = .ok (.invokevirtual 252, 3) := by decide +kernel
theorem dL_law_2168 : decode cL_law 2168 = .ok (.istore 7, 2) := by decide +kernel
theorem dL_law_2170 : decode cL_law 2170 = .ok (.aload_n 2, 1) := by decide +kernel
theorem dL_law_2171 : decode cL_law 2171 = .ok (.invokevirtual 144, 3) := by decide +kernel
theorem dL_law_2174 : decode cL_law 2174 = .ok (.iload 6, 2) := by decide +kernel
theorem dL_law_2176 : decode cL_law 2176 = .ok (.if_icmp .eq 5, 3) := by decide +kernel
theorem dL_law_2179 : decode cL_law 2179 = .ok (.iconst 0, 1) := by decide +kernel
theorem dL_law_2180 : decode cL_law 2180 = .ok (.ireturn, 1) := by decide +kernel
theorem dL_law_2181 : decode cL_law 2181 = .ok (.iload 6, 2) := by decide +kernel
theorem dL_law_2183 : decode cL_law 2183 = .ok (.ifCond .ne 15, 3) := by decide +kernel
theorem dL_law_2186 : decode cL_law 2186 = .ok (.aload_n 3, 1) := by decide +kernel
theorem dL_law_2187 : decode cL_law 2187 = .ok (.iconst 0, 1) := by decide +kernel
theorem dL_law_2188 : decode cL_law 2188 = .ok (.laload, 1) := by decide +kernel
theorem dL_law_2189 : decode cL_law 2189 = .ok (.iload 7, 2) := by decide +kernel
theorem dL_law_2191 : decode cL_law 2191 = .ok (.i2l, 1) := by decide +kernel
theorem dL_law_2192 : decode cL_law 2192 = .ok (.lcmp, 1) := by decide +kernel
theorem dL_law_2193 : decode cL_law 2193 = .ok (.ifCond .eq 5, 3) := by decide +kernel
theorem dL_law_2196 : decode cL_law 2196 = .ok (.iconst 0, 1) := by decide +kernel
theorem dL_law_2197 : decode cL_law 2197 = .ok (.ireturn, 1) := by decide +kernel
theorem dL_law_2198 : decode cL_law 2198 = .ok (.goto 299, 3) := by decide +kernel
theorem dL_law_2201 : decode cL_law 2201 = .ok (.aload_n 1, 1) := by decide +kernel
theorem dL_law_2202 : decode cL_law 2202 = .ok (.aload_n 0, 1) := by decide +kernel
theorem dL_law_2203 : decode cL_law 2203 = .ok (.iload 5, 2) := by decide +kernel
theorem dL_law_2205 : decode cL_law 2205 = .ok (.iconst 1, 1) := by decide +kernel
theorem dL_law_2206 : decode cL_law 2206 = .ok (.iadd, 1) := by decide +kernel
theorem dL_law_2207 : decode cL_law 2207 = .ok (.iaload, 1) := by decide +kernel
theorem dL_law_2208 : decode cL_law 2208 = .ok (.aload_n 3, 1) := by decide +kernel
theorem dL_law_2209 : decode cL_law 2209 = .ok (.invokestatic 253, 3) := by decide +kernel
theorem dL_law_2212 : decode cL_law 2212 = .ok (.istore 6, 2) := by decide +kernel
theorem dL_law_2214 : decode cL_law 2214 = .ok (.aload_n 2, 1) := by decide +kernel
theorem dL_law_2215 : decode cL_law 2215 = .ok (.aload_n 0, 1) := by decide +kernel
theorem dL_law_2216 : decode cL_law 2216 = .ok (.iload 5, 2) := by decide +kernel
theorem dL_law_2218 : decode cL_law 2218 = .ok (.iconst 1, 1) := by decide +kernel
theorem dL_law_2219 : decode cL_law 2219 = .ok (.iadd, 1) := by decide +kernel
theorem dL_law_2220 : decode cL_law 2220 = .ok (.iaload, 1) := by decide +kernel
theorem dL_law_2221 : decode cL_law 2221 = .ok (.invokevirtual 255, 3) := by decide +kernel
theorem dL_law_2224 : decode cL_law 2224 = .ok (.istore 7, 2) := by decide +kernel
theorem dL_law_2226 : decode cL_law 2226 = .ok (.aload_n 2, 1) := by decide +kernel
theorem dL_law_2227 : decode cL_law 2227 = .ok (.invokevirtual 144, 3) := by decide +kernel
theorem dL_law_2230 : decode cL_law 2230 = .ok (.iload 6, 2) := by decide +kernel
theorem dL_law_2232 : decode cL_law 2232 = .ok (.if_icmp .eq 5, 3) := by decide +kernel
theorem dL_law_2235 : decode cL_law 2235 = .ok (.iconst 0, 1) := by decide +kernel
theorem dL_law_2236 : decode cL_law 2236 = .ok (.ireturn, 1) := by decide +kernel
theorem dL_law_2237 : decode cL_law 2237 = .ok (.iload 6, 2) := by decide +kernel
theorem dL_law_2239 : decode cL_law 2239 = .ok (.ifCond .ne 15, 3) := by decide +kernel
theorem dL_law_2242 : decode cL_law 2242 = .ok (.aload_n 3, 1) := by decide +kernel
theorem dL_law_2243 : decode cL_law 2243 = .ok (.iconst 0, 1) := by decide +kernel
theorem dL_law_2244 : decode cL_law 2244 = .ok (.laload, 1) := by decide +kernel
theorem dL_law_2245 : decode cL_law 2245 = .ok (.iload 7, 2) := by decide +kernel
theorem dL_law_2247 : decode cL_law 2247 = .ok (.i2l, 1) := by decide +kernel
theorem dL_law_2248 : decode cL_law 2248 = .ok (.lcmp, 1) := by decide +kernel
theorem dL_law_2249 : decode cL_law 2249 = .ok (.ifCond .eq 5, 3) := by decide +kernel
theorem dL_law_2252 : decode cL_law 2252 = .ok (.iconst 0, 1) := by decide +kernel
theorem dL_law_2253 : decode cL_law 2253 = .ok (.ireturn, 1) := by decide +kernel
theorem dL_law_2254 : decode cL_law 2254 = .ok (.goto 243, 3) := by decide +kernel
theorem dL_law_2257 : decode cL_law 2257 = .ok (.aload_n 1, 1) := by decide +kernel
theorem dL_law_2258 : decode cL_law 2258 = .ok (.aload_n 0, 1) := by decide +kernel
theorem dL_law_2259 : decode cL_law 2259 = .ok (.iload 5, 2) := by decide +kernel
theorem dL_law_2261 : decode cL_law 2261 = .ok (.iconst 1, 1) := by decide +kernel
theorem dL_law_2262 : decode cL_law 2262 = .ok (.iadd, 1) := by decide +kernel
theorem dL_law_2263 : decode cL_law 2263 = .ok (.iaload, 1) := by decide +kernel
theorem dL_law_2264 : decode cL_law 2264 = .ok (.aload_n 3, 1) := by decide +kernel
theorem dL_law_2265 : decode cL_law 2265 = .ok (.invokestatic 256, 3) := by decide +kernel
theorem dL_law_2268 : decode cL_law 2268 = .ok (.istore 6, 2) := by decide +kernel
theorem dL_law_2270 : decode cL_law 2270 = .ok (.aload_n 2, 1) := by decide +kernel
theorem dL_law_2271 : decode cL_law 2271 = .ok (.aload_n 0, 1) := by decide +kernel
theorem dL_law_2272 : decode cL_law 2272 = .ok (.iload 5, 2) := by decide +kernel
theorem dL_law_2274 : decode cL_law 2274 = .ok (.iconst 1, 1) := by decide +kernel
theorem dL_law_2275 : decode cL_law 2275 = .ok (.iadd, 1) := by decide +kernel
theorem dL_law_2276 : decode cL_law 2276 = .ok (.iaload, 1) := by decide +kernel
theorem dL_law_2277 : decode cL_law 2277 = .ok (.invokevirtual 258, 3) := by decide +kernel
theorem dL_law_2280 : decode cL_law 2280 = .ok (.istore 7, 2) := by decide +kernel
theorem dL_law_2282 : decode cL_law 2282 = .ok (.aload_n 2, 1) := by decide +kernel
theorem dL_law_2283 : decode cL_law 2283 = .ok (.invokevirtual 144, 3) := by decide +kernel
theorem dL_law_2286 : decode cL_law 2286 = .ok (.iload 6, 2) := by decide +kernel
theorem dL_law_2288 : decode cL_law 2288 = .ok (.if_icmp .eq 5, 3) := by decide +kernel
theorem dL_law_2291 : decode cL_law 2291 = .ok (.iconst 0, 1) := by decide +kernel
theorem dL_law_2292 : decode cL_law 2292 = .ok (.ireturn, 1) := by decide +kernel
theorem dL_law_2293 : decode cL_law 2293 = .ok (.iload 6, 2) := by decide +kernel
theorem dL_law_2295 : decode cL_law 2295 = .ok (.ifCond .ne 15, 3) := by decide +kernel
theorem dL_law_2298 : decode cL_law 2298 = .ok (.aload_n 3, 1) := by decide +kernel
theorem dL_law_2299 : decode cL_law 2299 = .ok (.iconst 0, 1) := by decide +kernel
theorem dL_law_2300 : decode cL_law 2300 = .ok (.laload, 1) := by decide +kernel
theorem dL_law_2301 : decode cL_law 2301 = .ok (.iload 7, 2) := by decide +kernel
theorem dL_law_2303 : decode cL_law 2303 = .ok (.i2l, 1) := by decide +kernel
theorem dL_law_2304 : decode cL_law 2304 = .ok (.lcmp, 1) := by decide +kernel
theorem dL_law_2305 : decode cL_law 2305 = .ok (.ifCond .eq 5, 3) := by decide +kernel
theorem dL_law_2308 : decode cL_law 2308 = .ok (.iconst 0, 1) := by decide +kernel
theorem dL_law_2309 : decode cL_law 2309 = .ok (.ireturn, 1) := by decide +kernel
theorem dL_law_2310 : decode cL_law 2310 = .ok (.goto 187, 3) := by decide +kernel
theorem dL_law_2313 : decode cL_law 2313 = .ok (.aload_n 1, 1) := by decide +kernel
theorem dL_law_2314 : decode cL_law 2314 = .ok (.invokevirtual 259, 3) := by decide +kernel
theorem dL_law_2317 : decode cL_law 2317 = .ok (.aload_n 2, 1) := by decide +kernel
theorem dL_law_2318 : decode cL_law 2318 = .ok (.invokevirtual 262, 3) := by decide +kernel
theorem dL_law_2321 : decode cL_law 2321 = .ok (.if_icmp .eq 176, 3) := by decide +kernel
theorem dL_law_2324 : decode cL_law 2324 = .ok (.iconst 0, 1) := by decide +kernel
theorem dL_law_2325 : decode cL_law 2325 = .ok (.ireturn, 1) := by decide +kernel
theorem dL_law_2326 : decode cL_law 2326 = .ok (.aload_n 1, 1) := by decide +kernel
theorem dL_law_2327 : decode cL_law 2327 = .ok (.invokevirtual 263, 3) := by decide +kernel
theorem dL_law_2330 : decode cL_law 2330 = .ok (.aload_n 2, 1) := by decide +kernel
theorem dL_law_2331 : decode cL_law 2331 = .ok (.invokevirtual 266, 3) := by decide +kernel
theorem dL_law_2334 : decode cL_law 2334 = .ok (.if_icmp .eq 163, 3) := by decide +kernel
theorem dL_law_2337 : decode cL_law 2337 = .ok (.iconst 0, 1) := by decide +kernel
theorem dL_law_2338 : decode cL_law 2338 = .ok (.ireturn, 1) := by decide +kernel
theorem dL_law_2339 : decode cL_law 2339 = .ok (.aload_n 1, 1) := by decide +kernel
theorem dL_law_2340 : decode cL_law 2340 = .ok (.invokevirtual 267, 3) := by decide +kernel
theorem dL_law_2343 : decode cL_law 2343 = .ok (.aload_n 2, 1) := by decide +kernel
theorem dL_law_2344 : decode cL_law 2344 = .ok (.invokevirtual 271, 3) := by decide +kernel
theorem dL_law_2347 : decode cL_law 2347 = .ok (.lcmp, 1) := by decide +kernel
theorem dL_law_2348 : decode cL_law 2348 = .ok (.ifCond .eq 149, 3) := by decide +kernel
theorem dL_law_2351 : decode cL_law 2351 = .ok (.iconst 0, 1) := by decide +kernel
theorem dL_law_2352 : decode cL_law 2352 = .ok (.ireturn, 1) := by decide +kernel
theorem dL_law_2353 : decode cL_law 2353 = .ok (.aload_n 1, 1) := by decide +kernel
theorem dL_law_2354 : decode cL_law 2354 = .ok (.aload 4, 2) := by decide +kernel
theorem dL_law_2356 : decode cL_law 2356 = .ok (.invokestatic 272, 3) := by decide +kernel
theorem dL_law_2359 : decode cL_law 2359 = .ok (.istore 6, 2) := by decide +kernel
theorem dL_law_2361 : decode cL_law 2361 = .ok (.aload_n 2, 1) := by decide +kernel
theorem dL_law_2362 : decode cL_law 2362 = .ok (.invokevirtual 275, 3) := by decide +kernel
theorem dL_law_2365 : decode cL_law 2365 = .ok (.fstore 7, 2) := by decide +kernel
theorem dL_law_2367 : decode cL_law 2367 = .ok (.aload_n 2, 1) := by decide +kernel
theorem dL_law_2368 : decode cL_law 2368 = .ok (.invokevirtual 144, 3) := by decide +kernel
theorem dL_law_2371 : decode cL_law 2371 = .ok (.iload 6, 2) := by decide +kernel
theorem dL_law_2373 : decode cL_law 2373 = .ok (.if_icmp .eq 5, 3) := by decide +kernel
theorem dL_law_2376 : decode cL_law 2376 = .ok (.iconst 0, 1) := by decide +kernel
theorem dL_law_2377 : decode cL_law 2377 = .ok (.ireturn, 1) := by decide +kernel
theorem dL_law_2378 : decode cL_law 2378 = .ok (.iload 6, 2) := by decide +kernel
theorem dL_law_2380 : decode cL_law 2380 = .ok (.ifCond .ne 36, 3) := by decide +kernel
theorem dL_law_2383 : decode cL_law 2383 = .ok (.aload 4, 2) := by decide +kernel
theorem dL_law_2385 : decode cL_law 2385 = .ok (.iconst 0, 1) := by decide +kernel
theorem dL_law_2386 : decode cL_law 2386 = .ok (.daload, 1) := by decide +kernel
theorem dL_law_2387 : decode cL_law 2387 = .ok (.fload 7, 2) := by decide +kernel
theorem dL_law_2389 : decode cL_law 2389 = .ok (.f2d, 1) := by decide +kernel
theorem dL_law_2390 : decode cL_law 2390 = .ok (.dcmp .l, 1) := by decide +kernel
theorem dL_law_2391 : decode cL_law 2391 = .ok (.ifCond .eq 25, 3) := by decide +kernel
theorem dL_law_2394 : decode cL_law 2394 = .ok (.aload 4, 2) := by decide +kernel
theorem dL_law_2396 : decode cL_law 2396 = .ok (.iconst 0, 1) := by decide +kernel
theorem dL_law_2397 : decode cL_law 2397 = .ok (.daload, 1) := by decide +kernel
theorem dL_law_2398 : decode cL_law 2398 = .ok (.aload 4, 2) := by decide +kernel
theorem dL_law_2400 : decode cL_law 2400 = .ok (.iconst 0, 1) := by decide +kernel
theorem dL_law_2401 : decode cL_law 2401 = .ok (.daload, 1) := by decide +kernel
theorem dL_law_2402 : decode cL_law 2402 = .ok (.dcmp .l, 1) := by decide +kernel
theorem dL_law_2403 : decode cL_law 2403 = .ok (.ifCond .eq 11, 3) := by decide +kernel
theorem dL_law_2406 : decode cL_law 2406 = .ok (.fload 7, 2) := by decide +kernel
theorem dL_law_2408 : decode cL_law 2408 = .ok (.fload 7, 2) := by decide +kernel
theorem dL_law_2410 : decode cL_law 2410 = .ok (.fcmp .l, 1) := by decide +kernel
theorem dL_law_2411 : decode cL_law 2411 = .ok (.ifCond .ne 5, 3) := by decide +kernel
theorem dL_law_2414 : decode cL_law 2414 = .ok (.iconst 0, 1) := by decide +kernel
theorem dL_law_2415 : decode cL_law 2415 = .ok (.ireturn, 1) := by decide +kernel
theorem dL_law_2416 : decode cL_law 2416 = .ok (.goto 81, 3) := by decide +kernel
theorem dL_law_2419 : decode cL_law 2419 = .ok (.aload_n 1, 1) := by decide +kernel
theorem dL_law_2420 : decode cL_law 2420 = .ok (.aload 4, 2) := by decide +kernel
theorem dL_law_2422 : decode cL_law 2422 = .ok (.invokestatic 276, 3) := by decide +kernel
theorem dL_law_2425 : decode cL_law 2425 = .ok (.istore 6, 2) := by decide +kernel
theorem dL_law_2427 : decode cL_law 2427 = .ok (.aload_n 2, 1) := by decide +kernel
theorem dL_law_2428 : decode cL_law 2428 = .ok (.invokevirtual 278, 3) := by decide +kernel
theorem dL_law_2431 : decode cL_law 2431 = .ok (.dstore 7, 2) := by decide +kernel
theorem dL_law_2433 : decode cL_law 2433 = .ok (.aload_n 2, 1) := by decide +kernel
theorem dL_law_2434 : decode cL_law 2434 = .ok (.invokevirtual 144, 3) := by decide +kernel
theorem dL_law_2437 : decode cL_law 2437 = .ok (.iload 6, 2) := by decide +kernel
theorem dL_law_2439 : decode cL_law 2439 = .ok (.if_icmp .eq 5, 3) := by decide +kernel
theorem dL_law_2442 : decode cL_law 2442 = .ok (.iconst 0, 1) := by decide +kernel
theorem dL_law_2443 : decode cL_law 2443 = .ok (.ireturn, 1) := by decide +kernel
theorem dL_law_2444 : decode cL_law 2444 = .ok (.iload 6, 2) := by decide +kernel
theorem dL_law_2446 : decode cL_law 2446 = .ok (.ifCond .ne 35, 3) := by decide +kernel
theorem dL_law_2449 : decode cL_law 2449 = .ok (.aload 4, 2) := by decide +kernel
theorem dL_law_2451 : decode cL_law 2451 = .ok (.iconst 0, 1) := by decide +kernel
theorem dL_law_2452 : decode cL_law 2452 = .ok (.daload, 1) := by decide +kernel
theorem dL_law_2453 : decode cL_law 2453 = .ok (.dload 7, 2) := by decide +kernel
theorem dL_law_2455 : decode cL_law 2455 = .ok (.dcmp .l, 1) := by decide +kernel
theorem dL_law_2456 : decode cL_law 2456 = .ok (.ifCond .eq 25, 3) := by decide +kernel
theorem dL_law_2459 : decode cL_law 2459 = .ok (.aload 4, 2) := by decide +kernel
theorem dL_law_2461 : decode cL_law 2461 = .ok (.iconst 0, 1) := by decide +kernel
theorem dL_law_2462 : decode cL_law 2462 = .ok (.daload, 1) := by decide +kernel
theorem dL_law_2463 : decode cL_law 2463 = .ok (.aload 4, 2) := by decide +kernel
theorem dL_law_2465 : decode cL_law 2465 = .ok (.iconst 0, 1) := by decide +kernel
theorem dL_law_2466 : decode cL_law 2466 = .ok (.daload, 1) := by decide +kernel
theorem dL_law_2467 : decode cL_law 2467 = .ok (.dcmp .l, 1) := by decide +kernel
theorem dL_law_2468 : decode cL_law 2468 = .ok (.ifCond .eq 11, 3) := by decide +kernel
theorem dL_law_2471 : decode cL_law 2471 = .ok (.dload 7, 2) := by decide +kernel
theorem dL_law_2473 : decode cL_law 2473 = .ok (.dload 7, 2) := by decide +kernel
theorem dL_law_2475 : decode cL_law 2475 = .ok (.dcmp .l, 1) := by decide +kernel
theorem dL_law_2476 : decode cL_law 2476 = .ok (.ifCond .ne 5, 3) := by decide +kernel
theorem dL_law_2479 : decode cL_law 2479 = .ok (.iconst 0, 1) := by decide +kernel
theorem dL_law_2480 : decode cL_law 2480 = .ok (.ireturn, 1) := by decide +kernel
theorem dL_law_2481 : decode cL_law 2481 = .ok (.goto 16, 3) := by decide +kernel
theorem dL_law_2484 : decode cL_law 2484 = .ok (.aload_n 1, 1) := by decide +kernel
theorem dL_law_2485 : decode cL_law 2485 = .ok (.invokevirtual 279, 3) := by decide +kernel
theorem dL_law_2488 : decode cL_law 2488 = .ok (.aload_n 2, 1) := by decide +kernel
theorem dL_law_2489 : decode cL_law 2489 = .ok (.invokevirtual 283, 3) := by decide +kernel
theorem dL_law_2492 : decode cL_law 2492 = .ok (.if_icmp .eq 5, 3) := by decide +kernel
theorem dL_law_2495 : decode cL_law 2495 = .ok (.iconst 0, 1) := by decide +kernel
theorem dL_law_2496 : decode cL_law 2496 = .ok (.ireturn, 1) := by decide +kernel
theorem dL_law_2497 : decode cL_law 2497 = .ok (.iinc 5 6, 3) := by decide +kernel
theorem dL_law_2500 : decode cL_law 2500 = .ok (.goto (-2472), 3) := by decide +kernel
theorem dL_law_2503 : decode cL_law 2503 = .ok (.iconst 1, 1) := by decide +kernel
theorem dL_law_2504 : decode cL_law 2504 = .ok (.ireturn, 1) := by decide +kernel
end
section
/-! the words of the tables, by their places: t_ those that a callee takes over, n_ those of the nest and of casts -/
def lw_good : List Cond := lw_tbl.filter goodWord
def nestW : Cond → Bool
  | .fieldLinkNest .. => true
  | .methodLinkNest .. => true
  | .castable .. => true
  | _ => false
def lw_nest : List Cond := tables_1.filter nestW
theorem lw_good_goods : ∀ w ∈ lw_good, goodWord w = true := fun w h => (List.mem_filter.mp h).2
theorem lw_good_tbl : ∀ w ∈ lw_good, w ∈ lw_tbl := fun w h => (List.mem_filter.mp h).1
theorem t_of {i : Nat} {w : Cond} (h : tables_1[i]? = some w) (g : goodWord w = true) : w ∈ lw_good := List.mem_filter.mpr ⟨List.mem_append_right _ (List.mem_of_getElem? h), g⟩
theorem t_ofS {i : Nat} {w : Cond} (h : (k2_sels lw_privs)[i]? = some w) (g : goodWord w = true) : w ∈ lw_good := List.mem_filter.mpr ⟨List.mem_append_left _ (List.mem_of_getElem? h), g⟩
theorem n_of {i : Nat} {w : Cond} (h : tables_1[i]? = some w) (g : nestW w = true) : w ∈ lw_nest := List.mem_filter.mpr ⟨List.mem_of_getElem? h, g⟩
theorem t_0 : (Cond.initialized RL) ∈ lw_good := t_of (i := 0) (by decide +kernel) (by decide +kernel)
theorem t_1 : (Cond.initialized RX6) ∈ lw_good := t_of (i := 1) (by decide +kernel) (by decide +kernel)
theorem t_2 : (Cond.initialized RX1) ∈ lw_good := t_of (i := 2) (by decide +kernel) (by decide +kernel)
theorem t_3 : (Cond.initialized RX5) ∈ lw_good := t_of (i := 3) (by decide +kernel) (by decide +kernel)
theorem t_4 : (Cond.initialized RJxa1e45) ∈ lw_good := t_of (i := 4) (by decide +kernel) (by decide +kernel)
theorem t_5 : (Cond.initialized RJxc12de) ∈ lw_good := t_of (i := 5) (by decide +kernel) (by decide +kernel)
theorem t_6 : (Cond.initialized RJx4a65c) ∈ lw_good := t_of (i := 6) (by decide +kernel) (by decide +kernel)
theorem t_7 : (Cond.initialized RX7) ∈ lw_good := t_of (i := 7) (by decide +kernel) (by decide +kernel)
theorem t_8 : (Cond.initialized "java/lang/Throwable") ∈ lw_good := t_of (i := 8) (by decide +kernel) (by decide +kernel)
theorem t_9 : (Cond.initialized "java/lang/Exception") ∈ lw_good := t_of (i := 9) (by decide +kernel) (by decide +kernel)
theorem t_10 : (Cond.initialized "java/lang/RuntimeException") ∈ lw_good := t_of (i := 10) (by decide +kernel) (by decide +kernel)
theorem t_11 : (Cond.initialized "java/lang/IllegalArgumentException") ∈ lw_good := t_of (i := 11) (by decide +kernel) (by decide +kernel)
theorem t_12 : (Cond.initialized RJ15) ∈ lw_good := t_of (i := 12) (by decide +kernel) (by decide +kernel)
theorem t_13 : (Cond.initialized RJ3) ∈ lw_good := t_of (i := 13) (by decide +kernel) (by decide +kernel)
theorem t_14 : (Cond.initialized "java/lang/System") ∈ lw_good := t_of (i := 14) (by decide +kernel) (by decide +kernel)
theorem t_15 : (Cond.initialized "java/lang/IndexOutOfBoundsException") ∈ lw_good := t_of (i := 15) (by decide +kernel) (by decide +kernel)
theorem t_16 : (Cond.initialized "java/lang/AbstractStringBuilder") ∈ lw_good := t_of (i := 16) (by decide +kernel) (by decide +kernel)
theorem t_17 : (Cond.initialized "java/lang/StringBuilder") ∈ lw_good := t_of (i := 17) (by decide +kernel) (by decide +kernel)
theorem t_18 : (Cond.initialized "java/lang/String") ∈ lw_good := t_of (i := 18) (by decide +kernel) (by decide +kernel)
theorem t_19 : (Cond.initialized "java/lang/StringUTF16") ∈ lw_good := t_of (i := 19) (by decide +kernel) (by decide +kernel)
theorem t_20 : (Cond.initialized RJ8) ∈ lw_good := t_of (i := 20) (by decide +kernel) (by decide +kernel)
theorem t_21 : (Cond.initialized RJ9) ∈ lw_good := t_of (i := 21) (by decide +kernel) (by decide +kernel)
theorem t_22 : (Cond.initialized RJ7) ∈ lw_good := t_of (i := 22) (by decide +kernel) (by decide +kernel)
theorem t_23 : (Cond.initialized "java/lang/StringLatin1") ∈ lw_good := t_of (i := 23) (by decide +kernel) (by decide +kernel)
theorem t_24 : (Cond.initialized "java/lang/Number") ∈ lw_good := t_of (i := 24) (by decide +kernel) (by decide +kernel)
theorem t_25 : (Cond.initialized RJ6) ∈ lw_good := t_of (i := 25) (by decide +kernel) (by decide +kernel)
theorem t_26 : (Cond.initialized "java/util/NoSuchElementException") ∈ lw_good := t_of (i := 26) (by decide +kernel) (by decide +kernel)
theorem t_27 : (Cond.initialized "java/lang/IllegalStateException") ∈ lw_good := t_of (i := 27) (by decide +kernel) (by decide +kernel)
theorem t_28 : (Cond.initialized RX4) ∈ lw_good := t_of (i := 28) (by decide +kernel) (by decide +kernel)
theorem t_29 : (Cond.initialized RX2) ∈ lw_good := t_of (i := 29) (by decide +kernel) (by decide +kernel)
theorem t_30 : (Cond.initialized "java/lang/ArrayIndexOutOfBoundsException") ∈ lw_good := t_of (i := 30) (by decide +kernel) (by decide +kernel)
theorem t_31 : (Cond.initialized RX0) ∈ lw_good := t_of (i := 31) (by decide +kernel) (by decide +kernel)
theorem t_32 : (Cond.initialized "java/lang/UnsupportedOperationException") ∈ lw_good := t_of (i := 32) (by decide +kernel) (by decide +kernel)
theorem t_33 : (Cond.initialized RX3) ∈ lw_good := t_of (i := 33) (by decide +kernel) (by decide +kernel)
theorem t_34 : (Cond.initialized "java/lang/ArithmeticException") ∈ lw_good := t_of (i := 34) (by decide +kernel) (by decide +kernel)
theorem t_35 : (Cond.classLink RL 8 "TicketWeaver") ∈ lw_good := t_of (i := 35) (by decide +kernel) (by decide +kernel)
theorem t_36 : (Cond.instantiable RX6 15) ∈ lw_good := t_of (i := 36) (by decide +kernel) (by decide +kernel)
theorem t_37 : (Cond.methodLink RL 134 yX6_init) ∈ lw_good := t_of (i := 37) (by decide +kernel) (by decide +kernel)
theorem t_38 : (Cond.instanceMethod yX6_init) ∈ lw_good := t_of (i := 38) (by decide +kernel) (by decide +kernel)
theorem t_39 : (Cond.code yX6_init cX6_init 2 none) ∈ lw_good := t_of (i := 39) (by decide +kernel) (by decide +kernel)
theorem t_40 : (Cond.methodLink RX6 1 ⟨"java/lang/Object", "<init>", "()V"⟩) ∈ lw_good := t_of (i := 40) (by decide +kernel) (by decide +kernel)
theorem t_41 : (Cond.instanceMethod ⟨"java/lang/Object", "<init>", "()V"⟩) ∈ lw_good := t_of (i := 41) (by decide +kernel) (by decide +kernel)
theorem t_42 : (Cond.code ⟨"java/lang/Object", "<init>", "()V"⟩ object_method_1_code 1 none) ∈ lw_good := t_of (i := 42) (by decide +kernel) (by decide +kernel)
theorem t_43 : (Cond.classLink RX6 13 "TicketWeaver$Customer") ∈ lw_good := t_of (i := 43) (by decide +kernel) (by decide +kernel)
theorem t_45 : (Cond.instantiable RX1 2) ∈ lw_good := t_of (i := 45) (by decide +kernel) (by decide +kernel)
theorem t_46 : (Cond.methodLink RX6 19 yX1_init) ∈ lw_good := t_of (i := 46) (by decide +kernel) (by decide +kernel)
theorem t_47 : (Cond.instanceMethod yX1_init) ∈ lw_good := t_of (i := 47) (by decide +kernel) (by decide +kernel)
theorem t_48 : (Cond.code yX1_init cX1_init 2 none) ∈ lw_good := t_of (i := 48) (by decide +kernel) (by decide +kernel)
theorem t_49 : (Cond.methodLink RX1 1 ⟨"java/lang/Object", "<init>", "()V"⟩) ∈ lw_good := t_of (i := 49) (by decide +kernel) (by decide +kernel)
theorem t_50 : (Cond.fieldLink RX1 7 "TicketWeaver$Customer" "promises" "[I") ∈ lw_good := t_of (i := 50) (by decide +kernel) (by decide +kernel)
theorem t_59 : (Cond.arrayClass FieldType.int) ∈ lw_good := t_of (i := 59) (by decide +kernel) (by decide +kernel)
theorem t_60 : (Cond.classLink RX6 22 "TicketWeaver$TopicQueue") ∈ lw_good := t_of (i := 60) (by decide +kernel) (by decide +kernel)
theorem t_62 : (Cond.instantiable RX5 1) ∈ lw_good := t_of (i := 62) (by decide +kernel) (by decide +kernel)
theorem t_63 : (Cond.methodLink RX6 28 yX5_init) ∈ lw_good := t_of (i := 63) (by decide +kernel) (by decide +kernel)
theorem t_64 : (Cond.instanceMethod yX5_init) ∈ lw_good := t_of (i := 64) (by decide +kernel) (by decide +kernel)
theorem t_65 : (Cond.code yX5_init cX5_init 1 none) ∈ lw_good := t_of (i := 65) (by decide +kernel) (by decide +kernel)
theorem t_66 : (Cond.methodLink RX5 1 ⟨"java/lang/Object", "<init>", "()V"⟩) ∈ lw_good := t_of (i := 66) (by decide +kernel) (by decide +kernel)
theorem t_67 : (Cond.classLink RX5 7 "java/util/ArrayList") ∈ lw_good := t_of (i := 67) (by decide +kernel) (by decide +kernel)
theorem t_68 : (Cond.instantiable RJx4a65c 3) ∈ lw_good := t_of (i := 68) (by decide +kernel) (by decide +kernel)
theorem t_69 : (Cond.methodLink RX5 9 yJx4a65c_init_da8c8) ∈ lw_good := t_of (i := 69) (by decide +kernel) (by decide +kernel)
theorem t_70 : (Cond.instanceMethod yJx4a65c_init_da8c8) ∈ lw_good := t_of (i := 70) (by decide +kernel) (by decide +kernel)
theorem t_71 : (Cond.code yJx4a65c_init_da8c8 cJx4a65c_init_da8c8 1 none) ∈ lw_good := t_of (i := 71) (by decide +kernel) (by decide +kernel)
theorem t_72 : (Cond.methodLink RJx4a65c 1 yJxc12de_init_da8c8) ∈ lw_good := t_of (i := 72) (by decide +kernel) (by decide +kernel)
theorem t_73 : (Cond.instanceMethod yJxc12de_init_da8c8) ∈ lw_good := t_of (i := 73) (by decide +kernel) (by decide +kernel)
theorem t_74 : (Cond.code yJxc12de_init_da8c8 cJxc12de_init_da8c8 1 none) ∈ lw_good := t_of (i := 74) (by decide +kernel) (by decide +kernel)
theorem t_75 : (Cond.methodLink RJxc12de 1 yJxa1e45_init_da8c8) ∈ lw_good := t_of (i := 75) (by decide +kernel) (by decide +kernel)
theorem t_76 : (Cond.instanceMethod yJxa1e45_init_da8c8) ∈ lw_good := t_of (i := 76) (by decide +kernel) (by decide +kernel)
theorem t_77 : (Cond.code yJxa1e45_init_da8c8 cJxa1e45_init_da8c8 1 none) ∈ lw_good := t_of (i := 77) (by decide +kernel) (by decide +kernel)
theorem t_78 : (Cond.methodLink RJxa1e45 1 ⟨"java/lang/Object", "<init>", "()V"⟩) ∈ lw_good := t_of (i := 78) (by decide +kernel) (by decide +kernel)
theorem t_79 : (Cond.fieldLink RJx4a65c 39 "java/util/ArrayList" "DEFAULTCAPACITY_EMPTY_ELEMENTDATA" "[Ljava/lang/Object;") ∈ lw_good := t_of (i := 79) (by decide +kernel) (by decide +kernel)
theorem t_81 : (Cond.fieldLink RJx4a65c 9 "java/util/ArrayList" "elementData" "[Ljava/lang/Object;") ∈ lw_good := t_of (i := 81) (by decide +kernel) (by decide +kernel)
theorem t_82 : (Cond.fieldLink RJx4a65c 48 "java/util/ArrayList" "size" "I") ∈ lw_good := t_of (i := 82) (by decide +kernel) (by decide +kernel)
theorem t_83 : (Cond.fieldLink RJxc12de 7 "java/util/AbstractList" "modCount" "I") ∈ lw_good := t_of (i := 83) (by decide +kernel) (by decide +kernel)
theorem t_84 : (Cond.fieldLink RJx4a65c 63 "java/util/ArrayList" "modCount" "I") ∈ lw_good := t_of (i := 84) (by decide +kernel) (by decide +kernel)
theorem t_85 : (Cond.sameField "java/util/ArrayList" "java/util/AbstractList" "modCount" "I") ∈ lw_good := t_of (i := 85) (by decide +kernel) (by decide +kernel)
theorem t_93 : (Cond.fieldLink RX5 10 "TicketWeaver$TopicQueue" "line" "Ljava/util/ArrayList;") ∈ lw_good := t_of (i := 93) (by decide +kernel) (by decide +kernel)
theorem t_97 : (Cond.classLink RX6 29 "java/util/ArrayList") ∈ lw_good := t_of (i := 97) (by decide +kernel) (by decide +kernel)
theorem t_98 : (Cond.methodLink RX6 31 yJx4a65c_init_da8c8) ∈ lw_good := t_of (i := 98) (by decide +kernel) (by decide +kernel)
theorem t_99 : (Cond.fieldLink RX6 7 "TicketWeaver" "promises" "[I") ∈ lw_good := t_of (i := 99) (by decide +kernel) (by decide +kernel)
theorem t_100 : (Cond.fieldLink RX6 15 "TicketWeaver" "customers" "[LTicketWeaver$Customer;") ∈ lw_good := t_of (i := 100) (by decide +kernel) (by decide +kernel)
theorem t_101 : (Cond.fieldLink RX6 24 "TicketWeaver" "queues" "[LTicketWeaver$TopicQueue;") ∈ lw_good := t_of (i := 101) (by decide +kernel) (by decide +kernel)
theorem t_102 : (Cond.fieldLink RX6 32 "TicketWeaver" "mails" "Ljava/util/ArrayList;") ∈ lw_good := t_of (i := 102) (by decide +kernel) (by decide +kernel)
theorem t_103 : (Cond.fieldLink RX6 36 "TicketWeaver" "tickets" "Ljava/util/ArrayList;") ∈ lw_good := t_of (i := 103) (by decide +kernel) (by decide +kernel)
theorem t_104 : (Cond.fieldLink RX6 39 "TicketWeaver" "agents" "Ljava/util/ArrayList;") ∈ lw_good := t_of (i := 104) (by decide +kernel) (by decide +kernel)
theorem t_105 : (Cond.fieldLink RX6 42 "TicketWeaver" "preparedAnswers" "Ljava/util/ArrayList;") ∈ lw_good := t_of (i := 105) (by decide +kernel) (by decide +kernel)
theorem t_106 : (Cond.fieldLink RX6 45 "TicketWeaver" "answersWithWord" "[I") ∈ lw_good := t_of (i := 106) (by decide +kernel) (by decide +kernel)
theorem t_107 : (Cond.fieldLink RX6 48 "TicketWeaver" "scores" "[I") ∈ lw_good := t_of (i := 107) (by decide +kernel) (by decide +kernel)
theorem t_108 : (Cond.fieldLink RX6 84 "TicketWeaver" "time" "I") ∈ lw_good := t_of (i := 108) (by decide +kernel) (by decide +kernel)
theorem t_109 : (Cond.fieldLink RX6 88 "TicketWeaver" "breaches" "I") ∈ lw_good := t_of (i := 109) (by decide +kernel) (by decide +kernel)
theorem t_110 : (Cond.fieldLink RX6 325 "TicketWeaver" "answers" "I") ∈ lw_good := t_of (i := 110) (by decide +kernel) (by decide +kernel)
theorem t_111 : (Cond.fieldLink RX6 333 "TicketWeaver" "keptAnswers" "I") ∈ lw_good := t_of (i := 111) (by decide +kernel) (by decide +kernel)
theorem t_112 : (Cond.fieldLink RX6 336 "TicketWeaver" "clocksOfAnswers" "J") ∈ lw_good := t_of (i := 112) (by decide +kernel) (by decide +kernel)
theorem t_113 : (Cond.fieldLink RX6 76 "TicketWeaver" "minutesOpen" "J") ∈ lw_good := t_of (i := 113) (by decide +kernel) (by decide +kernel)
theorem t_145 : (Cond.methodLink RL 148 yX6_time) ∈ lw_good := t_of (i := 145) (by decide +kernel) (by decide +kernel)
theorem t_146 : (Cond.instanceMethod yX6_time) ∈ lw_good := t_of (i := 146) (by decide +kernel) (by decide +kernel)
theorem t_147 : (Cond.selects RX6 yX6_time yX6_time) ∈ lw_good := t_of (i := 147) (by decide +kernel) (by decide +kernel)
theorem t_148 : (Cond.code yX6_time cX6_time 1 (some FieldType.int)) ∈ lw_good := t_of (i := 148) (by decide +kernel) (by decide +kernel)
theorem t_149 : (Cond.methodLink RL 166 yX6_mails) ∈ lw_good := t_of (i := 149) (by decide +kernel) (by decide +kernel)
theorem t_150 : (Cond.instanceMethod yX6_mails) ∈ lw_good := t_of (i := 150) (by decide +kernel) (by decide +kernel)
theorem t_151 : (Cond.selects RX6 yX6_mails yX6_mails) ∈ lw_good := t_of (i := 151) (by decide +kernel) (by decide +kernel)
theorem t_152 : (Cond.code yX6_mails cX6_mails 1 (some FieldType.int)) ∈ lw_good := t_of (i := 152) (by decide +kernel) (by decide +kernel)
theorem t_153 : (Cond.methodLink RX6 62 yJx4a65c_size_8abf5) ∈ lw_good := t_of (i := 153) (by decide +kernel) (by decide +kernel)
theorem t_154 : (Cond.instanceMethod yJx4a65c_size_8abf5) ∈ lw_good := t_of (i := 154) (by decide +kernel) (by decide +kernel)
theorem t_155 : (Cond.selects RJx4a65c yJx4a65c_size_8abf5 yJx4a65c_size_8abf5) ∈ lw_good := t_of (i := 155) (by decide +kernel) (by decide +kernel)
theorem t_156 : (Cond.code yJx4a65c_size_8abf5 cJx4a65c_size_8abf5 1 (some FieldType.int)) ∈ lw_good := t_of (i := 156) (by decide +kernel) (by decide +kernel)
theorem t_157 : (Cond.methodLink RL 176 yX6_tickets) ∈ lw_good := t_of (i := 157) (by decide +kernel) (by decide +kernel)
theorem t_158 : (Cond.instanceMethod yX6_tickets) ∈ lw_good := t_of (i := 158) (by decide +kernel) (by decide +kernel)
theorem t_159 : (Cond.selects RX6 yX6_tickets yX6_tickets) ∈ lw_good := t_of (i := 159) (by decide +kernel) (by decide +kernel)
theorem t_160 : (Cond.code yX6_tickets cX6_tickets 1 (some FieldType.int)) ∈ lw_good := t_of (i := 160) (by decide +kernel) (by decide +kernel)
theorem t_161 : (Cond.methodLink RL 259 yX6_breaches) ∈ lw_good := t_of (i := 161) (by decide +kernel) (by decide +kernel)
theorem t_162 : (Cond.instanceMethod yX6_breaches) ∈ lw_good := t_of (i := 162) (by decide +kernel) (by decide +kernel)
theorem t_163 : (Cond.selects RX6 yX6_breaches yX6_breaches) ∈ lw_good := t_of (i := 163) (by decide +kernel) (by decide +kernel)
theorem t_164 : (Cond.code yX6_breaches cX6_breaches 1 (some FieldType.int)) ∈ lw_good := t_of (i := 164) (by decide +kernel) (by decide +kernel)
theorem t_165 : (Cond.methodLink RL 263 yX6_answers) ∈ lw_good := t_of (i := 165) (by decide +kernel) (by decide +kernel)
theorem t_166 : (Cond.instanceMethod yX6_answers) ∈ lw_good := t_of (i := 166) (by decide +kernel) (by decide +kernel)
theorem t_167 : (Cond.selects RX6 yX6_answers yX6_answers) ∈ lw_good := t_of (i := 167) (by decide +kernel) (by decide +kernel)
theorem t_168 : (Cond.code yX6_answers cX6_answers 1 (some FieldType.int)) ∈ lw_good := t_of (i := 168) (by decide +kernel) (by decide +kernel)
theorem t_169 : (Cond.methodLink RL 267 yX6_minutesOpen) ∈ lw_good := t_of (i := 169) (by decide +kernel) (by decide +kernel)
theorem t_170 : (Cond.instanceMethod yX6_minutesOpen) ∈ lw_good := t_of (i := 170) (by decide +kernel) (by decide +kernel)
theorem t_171 : (Cond.selects RX6 yX6_minutesOpen yX6_minutesOpen) ∈ lw_good := t_of (i := 171) (by decide +kernel) (by decide +kernel)
theorem t_172 : (Cond.code yX6_minutesOpen cX6_minutesOpen 1 (some FieldType.long)) ∈ lw_good := t_of (i := 172) (by decide +kernel) (by decide +kernel)
theorem t_173 : (Cond.methodLink RL 279 yX6_isSound) ∈ lw_good := t_of (i := 173) (by decide +kernel) (by decide +kernel)
theorem t_174 : (Cond.instanceMethod yX6_isSound) ∈ lw_good := t_of (i := 174) (by decide +kernel) (by decide +kernel)
theorem t_175 : (Cond.selects RX6 yX6_isSound yX6_isSound) ∈ lw_good := t_of (i := 175) (by decide +kernel) (by decide +kernel)
theorem t_176 : (Cond.code yX6_isSound cX6_isSound 1 (some FieldType.boolean)) ∈ lw_good := t_of (i := 176) (by decide +kernel) (by decide +kernel)
theorem t_177 : (Cond.methodLink RX6 339 yX6_hasEachMailOnce) ∈ lw_good := t_of (i := 177) (by decide +kernel) (by decide +kernel)
theorem t_179 : (Cond.instanceMethod yX6_hasEachMailOnce) ∈ lw_good := t_of (i := 179) (by decide +kernel) (by decide +kernel)
theorem t_180 : (Cond.code yX6_hasEachMailOnce cX6_hasEachMailOnce 4 (some FieldType.boolean)) ∈ lw_good := t_of (i := 180) (by decide +kernel) (by decide +kernel)
theorem t_181 : (Cond.methodLink RX6 66 yJx4a65c_get_915e3) ∈ lw_good := t_of (i := 181) (by decide +kernel) (by decide +kernel)
theorem t_182 : (Cond.instanceMethod yJx4a65c_get_915e3) ∈ lw_good := t_of (i := 182) (by decide +kernel) (by decide +kernel)
theorem t_183 : (Cond.selects RJx4a65c yJx4a65c_get_915e3 yJx4a65c_get_915e3) ∈ lw_good := t_of (i := 183) (by decide +kernel) (by decide +kernel)
theorem t_184 : (Cond.code yJx4a65c_get_915e3 cJx4a65c_get_915e3 2 (Option.some (FieldType.object "java/lang/Object"))) ∈ lw_good := t_of (i := 184) (by decide +kernel) (by decide +kernel)
theorem t_185 : (Cond.methodLink RJx4a65c 118 yJ15_checkIndex_7cf53) ∈ lw_good := t_of (i := 185) (by decide +kernel) (by decide +kernel)
theorem t_186 : (Cond.static yJ15_checkIndex_7cf53) ∈ lw_good := t_of (i := 186) (by decide +kernel) (by decide +kernel)
theorem t_187 : (Cond.code yJ15_checkIndex_7cf53 cJ15_checkIndex_7cf53 2 (some FieldType.int)) ∈ lw_good := t_of (i := 187) (by decide +kernel) (by decide +kernel)
theorem t_188 : (Cond.methodLink RJ15 105 yJ3_checkIndex_8e157) ∈ lw_good := t_of (i := 188) (by decide +kernel) (by decide +kernel)
theorem t_189 : (Cond.static yJ3_checkIndex_8e157) ∈ lw_good := t_of (i := 189) (by decide +kernel) (by decide +kernel)
theorem t_190 : (Cond.code yJ3_checkIndex_8e157 cJ3_checkIndex_8e157 3 (some FieldType.int)) ∈ lw_good := t_of (i := 190) (by decide +kernel) (by decide +kernel)
theorem t_191 : (Cond.methodLink RJx4a65c 123 yJx4a65c_elementData_915e3) ∈ lw_good := t_of (i := 191) (by decide +kernel) (by decide +kernel)
theorem t_192 : (Cond.instanceMethod yJx4a65c_elementData_915e3) ∈ lw_good := t_of (i := 192) (by decide +kernel) (by decide +kernel)
theorem t_193 : (Cond.selects RJx4a65c yJx4a65c_elementData_915e3 yJx4a65c_elementData_915e3) ∈ lw_good := t_of (i := 193) (by decide +kernel) (by decide +kernel)
theorem t_194 : (Cond.code yJx4a65c_elementData_915e3 cJx4a65c_elementData_915e3 2 (Option.some (FieldType.object "java/lang/Object"))) ∈ lw_good := t_of (i := 194) (by decide +kernel) (by decide +kernel)
theorem t_195 : (Cond.classLink RX6 70 "TicketWeaver$Ticket") ∈ lw_good := t_of (i := 195) (by decide +kernel) (by decide +kernel)
theorem t_196 : (Cond.methodLink RX6 416 yX4_ownsItsMails) ∈ lw_good := t_of (i := 196) (by decide +kernel) (by decide +kernel)
theorem t_197 : (Cond.instanceMethod yX4_ownsItsMails) ∈ lw_good := t_of (i := 197) (by decide +kernel) (by decide +kernel)
theorem t_198 : (Cond.selects RX4 yX4_ownsItsMails yX4_ownsItsMails) ∈ lw_good := t_of (i := 198) (by decide +kernel) (by decide +kernel)
theorem t_199 : (Cond.code yX4_ownsItsMails cX4_ownsItsMails 3 (some FieldType.boolean)) ∈ lw_good := t_of (i := 199) (by decide +kernel) (by decide +kernel)
theorem t_200 : (Cond.methodLink RX4 78 yJx4a65c_size_8abf5) ∈ lw_good := t_of (i := 200) (by decide +kernel) (by decide +kernel)
theorem t_201 : (Cond.methodLink RX4 81 yJx4a65c_get_915e3) ∈ lw_good := t_of (i := 201) (by decide +kernel) (by decide +kernel)
theorem t_202 : (Cond.classLink RX4 85 "TicketWeaver$Mail") ∈ lw_good := t_of (i := 202) (by decide +kernel) (by decide +kernel)
theorem t_203 : (Cond.methodLink RX6 342 yX6_agreesOnNextTickets) ∈ lw_good := t_of (i := 203) (by decide +kernel) (by decide +kernel)
theorem t_205 : (Cond.instanceMethod yX6_agreesOnNextTickets) ∈ lw_good := t_of (i := 205) (by decide +kernel) (by decide +kernel)
theorem t_206 : (Cond.code yX6_agreesOnNextTickets cX6_agreesOnNextTickets 2 (some FieldType.boolean)) ∈ lw_good := t_of (i := 206) (by decide +kernel) (by decide +kernel)
theorem t_207 : (Cond.classLink RX6 178 "TicketWeaver$Agent") ∈ lw_good := t_of (i := 207) (by decide +kernel) (by decide +kernel)
theorem t_208 : (Cond.methodLink RX6 237 yX6_nextFromQueues) ∈ lw_good := t_of (i := 208) (by decide +kernel) (by decide +kernel)
theorem t_210 : (Cond.instanceMethod yX6_nextFromQueues) ∈ lw_good := t_of (i := 210) (by decide +kernel) (by decide +kernel)
theorem t_211 : (Cond.code yX6_nextFromQueues cX6_nextFromQueues 4 (Option.some (FieldType.object "TicketWeaver$Ticket"))) ∈ lw_good := t_of (i := 211) (by decide +kernel) (by decide +kernel)
theorem t_212 : (Cond.methodLink RX6 246 yX0_canAnswer) ∈ lw_good := t_of (i := 212) (by decide +kernel) (by decide +kernel)
theorem t_213 : (Cond.instanceMethod yX0_canAnswer) ∈ lw_good := t_of (i := 213) (by decide +kernel) (by decide +kernel)
theorem t_214 : (Cond.selects RX0 yX0_canAnswer yX0_canAnswer) ∈ lw_good := t_of (i := 214) (by decide +kernel) (by decide +kernel)
theorem t_215 : (Cond.code yX0_canAnswer cX0_canAnswer 2 (some FieldType.boolean)) ∈ lw_good := t_of (i := 215) (by decide +kernel) (by decide +kernel)
theorem t_216 : (Cond.methodLink RX0 20 yX0_hasSkill) ∈ lw_good := t_of (i := 216) (by decide +kernel) (by decide +kernel)
theorem t_217 : (Cond.instanceMethod yX0_hasSkill) ∈ lw_good := t_of (i := 217) (by decide +kernel) (by decide +kernel)
theorem t_218 : (Cond.selects RX0 yX0_hasSkill yX0_hasSkill) ∈ lw_good := t_of (i := 218) (by decide +kernel) (by decide +kernel)
theorem t_219 : (Cond.code yX0_hasSkill cX0_hasSkill 2 (some FieldType.boolean)) ∈ lw_good := t_of (i := 219) (by decide +kernel) (by decide +kernel)
theorem t_220 : (Cond.methodLink RX6 391 yX5_head) ∈ lw_good := t_of (i := 220) (by decide +kernel) (by decide +kernel)
theorem t_221 : (Cond.instanceMethod yX5_head) ∈ lw_good := t_of (i := 221) (by decide +kernel) (by decide +kernel)
theorem t_222 : (Cond.selects RX5 yX5_head yX5_head) ∈ lw_good := t_of (i := 222) (by decide +kernel) (by decide +kernel)
theorem t_223 : (Cond.code yX5_head cX5_head 1 (Option.some (FieldType.object "TicketWeaver$Ticket"))) ∈ lw_good := t_of (i := 223) (by decide +kernel) (by decide +kernel)
theorem t_224 : (Cond.methodLink RX5 20 yJx4a65c_isEmpty_aae02) ∈ lw_good := t_of (i := 224) (by decide +kernel) (by decide +kernel)
theorem t_225 : (Cond.instanceMethod yJx4a65c_isEmpty_aae02) ∈ lw_good := t_of (i := 225) (by decide +kernel) (by decide +kernel)
theorem t_226 : (Cond.selects RJx4a65c yJx4a65c_isEmpty_aae02 yJx4a65c_isEmpty_aae02) ∈ lw_good := t_of (i := 226) (by decide +kernel) (by decide +kernel)
theorem t_227 : (Cond.code yJx4a65c_isEmpty_aae02 cJx4a65c_isEmpty_aae02 1 (some FieldType.boolean)) ∈ lw_good := t_of (i := 227) (by decide +kernel) (by decide +kernel)
theorem t_228 : (Cond.methodLink RX5 24 yJx4a65c_get_915e3) ∈ lw_good := t_of (i := 228) (by decide +kernel) (by decide +kernel)
theorem t_229 : (Cond.classLink RX5 28 "TicketWeaver$Ticket") ∈ lw_good := t_of (i := 229) (by decide +kernel) (by decide +kernel)
theorem t_230 : (Cond.methodLink RX6 395 yX6_earlierOf) ∈ lw_good := t_of (i := 230) (by decide +kernel) (by decide +kernel)
theorem t_231 : (Cond.static yX6_earlierOf) ∈ lw_good := t_of (i := 231) (by decide +kernel) (by decide +kernel)
theorem t_232 : (Cond.code yX6_earlierOf cX6_earlierOf 2 (Option.some (FieldType.object "TicketWeaver$Ticket"))) ∈ lw_good := t_of (i := 232) (by decide +kernel) (by decide +kernel)
theorem t_233 : (Cond.methodLink RX6 399 yX4_isBefore) ∈ lw_good := t_of (i := 233) (by decide +kernel) (by decide +kernel)
theorem t_234 : (Cond.instanceMethod yX4_isBefore) ∈ lw_good := t_of (i := 234) (by decide +kernel) (by decide +kernel)
theorem t_235 : (Cond.selects RX4 yX4_isBefore yX4_isBefore) ∈ lw_good := t_of (i := 235) (by decide +kernel) (by decide +kernel)
theorem t_236 : (Cond.code yX4_isBefore cX4_isBefore 2 (some FieldType.boolean)) ∈ lw_good := t_of (i := 236) (by decide +kernel) (by decide +kernel)
theorem t_237 : (Cond.methodLink RX4 55 yX4_minutesLeft) ∈ lw_good := t_of (i := 237) (by decide +kernel) (by decide +kernel)
theorem t_238 : (Cond.instanceMethod yX4_minutesLeft) ∈ lw_good := t_of (i := 238) (by decide +kernel) (by decide +kernel)
theorem t_239 : (Cond.selects RX4 yX4_minutesLeft yX4_minutesLeft) ∈ lw_good := t_of (i := 239) (by decide +kernel) (by decide +kernel)
theorem t_240 : (Cond.code yX4_minutesLeft cX4_minutesLeft 1 (some FieldType.int)) ∈ lw_good := t_of (i := 240) (by decide +kernel) (by decide +kernel)
theorem t_241 : (Cond.methodLink RX6 243 yX6_nextFromTickets) ∈ lw_good := t_of (i := 241) (by decide +kernel) (by decide +kernel)
theorem t_243 : (Cond.instanceMethod yX6_nextFromTickets) ∈ lw_good := t_of (i := 243) (by decide +kernel) (by decide +kernel)
theorem t_244 : (Cond.code yX6_nextFromTickets cX6_nextFromTickets 5 (Option.some (FieldType.object "TicketWeaver$Ticket"))) ∈ lw_good := t_of (i := 244) (by decide +kernel) (by decide +kernel)
theorem t_245 : (Cond.methodLink RX6 383 yX4_isWaiting) ∈ lw_good := t_of (i := 245) (by decide +kernel) (by decide +kernel)
theorem t_246 : (Cond.instanceMethod yX4_isWaiting) ∈ lw_good := t_of (i := 246) (by decide +kernel) (by decide +kernel)
theorem t_247 : (Cond.selects RX4 yX4_isWaiting yX4_isWaiting) ∈ lw_good := t_of (i := 247) (by decide +kernel) (by decide +kernel)
theorem t_248 : (Cond.code yX4_isWaiting cX4_isWaiting 1 (some FieldType.boolean)) ∈ lw_good := t_of (i := 248) (by decide +kernel) (by decide +kernel)
theorem t_249 : (Cond.methodLink RL 138 yL_pass) ∈ lw_good := t_of (i := 249) (by decide +kernel) (by decide +kernel)
theorem t_250 : (Cond.static yL_pass) ∈ lw_good := t_of (i := 250) (by decide +kernel) (by decide +kernel)
theorem t_251 : (Cond.codeWith yL_pass cL_pass 4 (some FieldType.int) [(0, 9, 12, 13)]) ∈ lw_good := t_of (i := 251) (by decide +kernel) (by decide +kernel)
theorem t_252 : (Cond.classLink RL 13 "java/lang/IllegalArgumentException") ∈ lw_good := t_of (i := 252) (by decide +kernel) (by decide +kernel)
theorem t_253 : (Cond.methodLink RL 7 yX6_pass) ∈ lw_good := t_of (i := 253) (by decide +kernel) (by decide +kernel)
theorem t_254 : (Cond.instanceMethod yX6_pass) ∈ lw_good := t_of (i := 254) (by decide +kernel) (by decide +kernel)
theorem t_255 : (Cond.selects RX6 yX6_pass yX6_pass) ∈ lw_good := t_of (i := 255) (by decide +kernel) (by decide +kernel)
theorem t_256 : (Cond.code yX6_pass cX6_pass 5 (some FieldType.int)) ∈ lw_good := t_of (i := 256) (by decide +kernel) (by decide +kernel)
theorem t_257 : (Cond.methodLink RX6 51 yX6_isWithin) ∈ lw_good := t_of (i := 257) (by decide +kernel) (by decide +kernel)
theorem t_258 : (Cond.static yX6_isWithin) ∈ lw_good := t_of (i := 258) (by decide +kernel) (by decide +kernel)
theorem t_259 : (Cond.code yX6_isWithin cX6_isWithin 3 (some FieldType.boolean)) ∈ lw_good := t_of (i := 259) (by decide +kernel) (by decide +kernel)
theorem t_260 : (Cond.classLink RX6 55 "java/lang/IllegalArgumentException") ∈ lw_good := t_of (i := 260) (by decide +kernel) (by decide +kernel)
theorem t_261 : (Cond.instantiable "java/lang/IllegalArgumentException" 6) ∈ lw_good := t_of (i := 261) (by decide +kernel) (by decide +kernel)
theorem t_303 : (Cond.instantiable "java/lang/Throwable" 6) ∈ lw_good := t_of (i := 303) (by decide +kernel) (by decide +kernel)
theorem t_306 : (Cond.methodLink RX6 59 ⟨"java/lang/IllegalArgumentException", "<init>", "(Ljava/lang/String;)V"⟩) ∈ lw_good := t_of (i := 306) (by decide +kernel) (by decide +kernel)
theorem t_331 : (Cond.arrayClass FieldType.byte) ∈ lw_good := t_of (i := 331) (by decide +kernel) (by decide +kernel)
theorem t_332 : (Cond.methodLink RX6 80 yX4_countMinutes) ∈ lw_good := t_of (i := 332) (by decide +kernel) (by decide +kernel)
theorem t_333 : (Cond.instanceMethod yX4_countMinutes) ∈ lw_good := t_of (i := 333) (by decide +kernel) (by decide +kernel)
theorem t_334 : (Cond.selects RX4 yX4_countMinutes yX4_countMinutes) ∈ lw_good := t_of (i := 334) (by decide +kernel) (by decide +kernel)
theorem t_335 : (Cond.code yX4_countMinutes cX4_countMinutes 2 (some FieldType.boolean)) ∈ lw_good := t_of (i := 335) (by decide +kernel) (by decide +kernel)
theorem t_336 : (Cond.methodLink RL 152 yL_setClass) ∈ lw_good := t_of (i := 336) (by decide +kernel) (by decide +kernel)
theorem t_337 : (Cond.static yL_setClass) ∈ lw_good := t_of (i := 337) (by decide +kernel) (by decide +kernel)
theorem t_338 : (Cond.codeWith yL_setClass cL_setClass 5 (some FieldType.int) [(0, 10, 13, 13)]) ∈ lw_good := t_of (i := 338) (by decide +kernel) (by decide +kernel)
theorem t_339 : (Cond.methodLink RL 15 yX6_setClass) ∈ lw_good := t_of (i := 339) (by decide +kernel) (by decide +kernel)
theorem t_340 : (Cond.instanceMethod yX6_setClass) ∈ lw_good := t_of (i := 340) (by decide +kernel) (by decide +kernel)
theorem t_341 : (Cond.selects RX6 yX6_setClass yX6_setClass) ∈ lw_good := t_of (i := 341) (by decide +kernel) (by decide +kernel)
theorem t_342 : (Cond.code yX6_setClass cX6_setClass 4 (some FieldType.int)) ∈ lw_good := t_of (i := 342) (by decide +kernel) (by decide +kernel)
theorem t_344 : (Cond.methodLink RX6 96 yX6_orderQueuesAnew) ∈ lw_good := t_of (i := 344) (by decide +kernel) (by decide +kernel)
theorem t_346 : (Cond.instanceMethod yX6_orderQueuesAnew) ∈ lw_good := t_of (i := 346) (by decide +kernel) (by decide +kernel)
theorem t_347 : (Cond.code yX6_orderQueuesAnew cX6_orderQueuesAnew 2 none) ∈ lw_good := t_of (i := 347) (by decide +kernel) (by decide +kernel)
theorem t_348 : (Cond.methodLink RX6 388 yX5_orderAnew) ∈ lw_good := t_of (i := 348) (by decide +kernel) (by decide +kernel)
theorem t_349 : (Cond.instanceMethod yX5_orderAnew) ∈ lw_good := t_of (i := 349) (by decide +kernel) (by decide +kernel)
theorem t_350 : (Cond.selects RX5 yX5_orderAnew yX5_orderAnew) ∈ lw_good := t_of (i := 350) (by decide +kernel) (by decide +kernel)
theorem t_351 : (Cond.code yX5_orderAnew cX5_orderAnew 2 none) ∈ lw_good := t_of (i := 351) (by decide +kernel) (by decide +kernel)
theorem t_352 : (Cond.methodLink RX5 16 yJx4a65c_size_8abf5) ∈ lw_good := t_of (i := 352) (by decide +kernel) (by decide +kernel)
theorem t_353 : (Cond.methodLink RX5 34 yJx4a65c_remove_915e3) ∈ lw_good := t_of (i := 353) (by decide +kernel) (by decide +kernel)
theorem t_354 : (Cond.instanceMethod yJx4a65c_remove_915e3) ∈ lw_good := t_of (i := 354) (by decide +kernel) (by decide +kernel)
theorem t_355 : (Cond.selects RJx4a65c yJx4a65c_remove_915e3 yJx4a65c_remove_915e3) ∈ lw_good := t_of (i := 355) (by decide +kernel) (by decide +kernel)
theorem t_356 : (Cond.code yJx4a65c_remove_915e3 cJx4a65c_remove_915e3 4 (Option.some (FieldType.object "java/lang/Object"))) ∈ lw_good := t_of (i := 356) (by decide +kernel) (by decide +kernel)
theorem t_357 : (Cond.methodLink RJx4a65c 144 yJx4a65c_fastRemove_b59b0) ∈ lw_good := t_of (i := 357) (by decide +kernel) (by decide +kernel)
theorem t_359 : (Cond.instanceMethod yJx4a65c_fastRemove_b59b0) ∈ lw_good := t_of (i := 359) (by decide +kernel) (by decide +kernel)
theorem t_360 : (Cond.code yJx4a65c_fastRemove_b59b0 cJx4a65c_fastRemove_b59b0 4 none) ∈ lw_good := t_of (i := 360) (by decide +kernel) (by decide +kernel)
theorem t_361 : (Cond.methodLink RJx4a65c 112 ⟨"java/lang/System", "arraycopy", "(Ljava/lang/Object;ILjava/lang/Object;II)V"⟩) ∈ lw_good := t_of (i := 361) (by decide +kernel) (by decide +kernel)
theorem t_362 : (Cond.static ⟨"java/lang/System", "arraycopy", "(Ljava/lang/Object;ILjava/lang/Object;II)V"⟩) ∈ lw_good := t_of (i := 362) (by decide +kernel) (by decide +kernel)
theorem t_364 : (Cond.methodLink RX5 30 yX5_insertBelow) ∈ lw_good := t_of (i := 364) (by decide +kernel) (by decide +kernel)
theorem t_366 : (Cond.instanceMethod yX5_insertBelow) ∈ lw_good := t_of (i := 366) (by decide +kernel) (by decide +kernel)
theorem t_367 : (Cond.code yX5_insertBelow cX5_insertBelow 4 none) ∈ lw_good := t_of (i := 367) (by decide +kernel) (by decide +kernel)
theorem t_368 : (Cond.methodLink RX5 37 yX4_isBefore) ∈ lw_good := t_of (i := 368) (by decide +kernel) (by decide +kernel)
theorem t_369 : (Cond.methodLink RX5 41 yJx4a65c_add_7a177) ∈ lw_good := t_of (i := 369) (by decide +kernel) (by decide +kernel)
theorem t_370 : (Cond.instanceMethod yJx4a65c_add_7a177) ∈ lw_good := t_of (i := 370) (by decide +kernel) (by decide +kernel)
theorem t_371 : (Cond.selects RJx4a65c yJx4a65c_add_7a177 yJx4a65c_add_7a177) ∈ lw_good := t_of (i := 371) (by decide +kernel) (by decide +kernel)
theorem t_372 : (Cond.code yJx4a65c_add_7a177 cJx4a65c_add_7a177 5 none) ∈ lw_good := t_of (i := 372) (by decide +kernel) (by decide +kernel)
theorem t_373 : (Cond.methodLink RJx4a65c 135 yJx4a65c_rangeCheckForAdd_d00df) ∈ lw_good := t_of (i := 373) (by decide +kernel) (by decide +kernel)
theorem t_375 : (Cond.instanceMethod yJx4a65c_rangeCheckForAdd_d00df) ∈ lw_good := t_of (i := 375) (by decide +kernel) (by decide +kernel)
theorem t_376 : (Cond.code yJx4a65c_rangeCheckForAdd_d00df cJx4a65c_rangeCheckForAdd_d00df 2 none) ∈ lw_good := t_of (i := 376) (by decide +kernel) (by decide +kernel)
theorem t_377 : (Cond.classLink RJx4a65c 187 "java/lang/IndexOutOfBoundsException") ∈ lw_good := t_of (i := 377) (by decide +kernel) (by decide +kernel)
theorem t_378 : (Cond.instantiable "java/lang/IndexOutOfBoundsException" 6) ∈ lw_good := t_of (i := 378) (by decide +kernel) (by decide +kernel)
theorem t_386 : (Cond.methodLink RJx4a65c 198 yJx4a65c_outOfBoundsMsg_b52d3) ∈ lw_good := t_of (i := 386) (by decide +kernel) (by decide +kernel)
theorem t_388 : (Cond.instanceMethod yJx4a65c_outOfBoundsMsg_b52d3) ∈ lw_good := t_of (i := 388) (by decide +kernel) (by decide +kernel)
theorem t_389 : (Cond.code yJx4a65c_outOfBoundsMsg_b52d3 cJx4a65c_outOfBoundsMsg_b52d3 2 (Option.some (FieldType.object "java/lang/String"))) ∈ lw_good := t_of (i := 389) (by decide +kernel) (by decide +kernel)
theorem t_390 : (Cond.classLink RJx4a65c 20 "java/lang/StringBuilder") ∈ lw_good := t_of (i := 390) (by decide +kernel) (by decide +kernel)
theorem t_391 : (Cond.instantiable "java/lang/StringBuilder" 4) ∈ lw_good := t_of (i := 391) (by decide +kernel) (by decide +kernel)
theorem t_392 : (Cond.methodLink RJx4a65c 22 ⟨"java/lang/StringBuilder", "<init>", "()V"⟩) ∈ lw_good := t_of (i := 392) (by decide +kernel) (by decide +kernel)
theorem t_407 : (Cond.constant "java/lang/StringUTF16" 20 (1073741823 : Int32)) ∈ lw_good := t_of (i := 407) (by decide +kernel) (by decide +kernel)
theorem t_422 : (Cond.methodLink RJx4a65c 25 ⟨"java/lang/StringBuilder", "append", "(Ljava/lang/String;)Ljava/lang/StringBuilder;"⟩) ∈ lw_good := t_of (i := 422) (by decide +kernel) (by decide +kernel)
theorem t_442 : (Cond.static yJ8_newLength_cabcc) ∈ lw_good := t_of (i := 442) (by decide +kernel) (by decide +kernel)
theorem t_443 : (Cond.code yJ8_newLength_cabcc cJ8_newLength_cabcc 4 (some FieldType.int)) ∈ lw_good := t_of (i := 443) (by decide +kernel) (by decide +kernel)
theorem t_444 : (Cond.methodLink RJ8 194 yJ9_max_7cf53) ∈ lw_good := t_of (i := 444) (by decide +kernel) (by decide +kernel)
theorem t_445 : (Cond.static yJ9_max_7cf53) ∈ lw_good := t_of (i := 445) (by decide +kernel) (by decide +kernel)
theorem t_446 : (Cond.code yJ9_max_7cf53 cJ9_max_7cf53 2 (some FieldType.int)) ∈ lw_good := t_of (i := 446) (by decide +kernel) (by decide +kernel)
theorem t_447 : (Cond.constant RJ8 200 (2147483639 : Int32)) ∈ lw_good := t_of (i := 447) (by decide +kernel) (by decide +kernel)
theorem t_448 : (Cond.methodLink RJ8 201 yJ8_hugeLength_7cf53) ∈ lw_good := t_of (i := 448) (by decide +kernel) (by decide +kernel)
theorem t_449 : (Cond.static yJ8_hugeLength_7cf53) ∈ lw_good := t_of (i := 449) (by decide +kernel) (by decide +kernel)
theorem t_450 : (Cond.code yJ8_hugeLength_7cf53 cJ8_hugeLength_7cf53 3 (some FieldType.int)) ∈ lw_good := t_of (i := 450) (by decide +kernel) (by decide +kernel)
theorem t_451 : (Cond.constant "java/lang/AbstractStringBuilder" 39 (2147483647 : Int32)) ∈ lw_good := t_of (i := 451) (by decide +kernel) (by decide +kernel)
theorem t_453 : (Cond.static yJ7_copyOf_9075b) ∈ lw_good := t_of (i := 453) (by decide +kernel) (by decide +kernel)
theorem t_454 : (Cond.code yJ7_copyOf_9075b cJ7_copyOf_9075b 3 (Option.some (FieldType.array FieldType.byte))) ∈ lw_good := t_of (i := 454) (by decide +kernel) (by decide +kernel)
theorem t_455 : (Cond.methodLink RJ7 310 ⟨"[B", "clone", "()Ljava/lang/Object;"⟩) ∈ lw_good := t_of (i := 455) (by decide +kernel) (by decide +kernel)
theorem t_458 : (Cond.instanceMethod ⟨"java/lang/Object", "clone", "()Ljava/lang/Object;"⟩) ∈ lw_good := t_of (i := 458) (by decide +kernel) (by decide +kernel)
theorem t_461 : (Cond.classLink RJ7 311 "[B") ∈ lw_good := t_of (i := 461) (by decide +kernel) (by decide +kernel)
theorem t_462 : (Cond.methodLink RJ7 304 yJ9_min_7cf53) ∈ lw_good := t_of (i := 462) (by decide +kernel) (by decide +kernel)
theorem t_463 : (Cond.static yJ9_min_7cf53) ∈ lw_good := t_of (i := 463) (by decide +kernel) (by decide +kernel)
theorem t_464 : (Cond.code yJ9_min_7cf53 cJ9_min_7cf53 2 (some FieldType.int)) ∈ lw_good := t_of (i := 464) (by decide +kernel) (by decide +kernel)
theorem t_465 : (Cond.methodLink RJ7 150 ⟨"java/lang/System", "arraycopy", "(Ljava/lang/Object;ILjava/lang/Object;II)V"⟩) ∈ lw_good := t_of (i := 465) (by decide +kernel) (by decide +kernel)
theorem t_486 : (Cond.static yJ3_checkFromToIndex_8c36e) ∈ lw_good := t_of (i := 486) (by decide +kernel) (by decide +kernel)
theorem t_487 : (Cond.code yJ3_checkFromToIndex_8c36e cJ3_checkFromToIndex_8c36e 4 (some FieldType.int)) ∈ lw_good := t_of (i := 487) (by decide +kernel) (by decide +kernel)
theorem t_532 : (Cond.static yJ3_checkFromIndexSize_8c36e) ∈ lw_good := t_of (i := 532) (by decide +kernel) (by decide +kernel)
theorem t_533 : (Cond.code yJ3_checkFromIndexSize_8c36e cJ3_checkFromIndexSize_8c36e 4 (some FieldType.int)) ∈ lw_good := t_of (i := 533) (by decide +kernel) (by decide +kernel)
theorem t_540 : (Cond.methodLink RJx4a65c 29 ⟨"java/lang/StringBuilder", "append", "(I)Ljava/lang/StringBuilder;"⟩) ∈ lw_good := t_of (i := 540) (by decide +kernel) (by decide +kernel)
theorem t_548 : (Cond.static yJ6_stringSize_0f7a4) ∈ lw_good := t_of (i := 548) (by decide +kernel) (by decide +kernel)
theorem t_549 : (Cond.code yJ6_stringSize_0f7a4 cJ6_stringSize_0f7a4 4 (some FieldType.int)) ∈ lw_good := t_of (i := 549) (by decide +kernel) (by decide +kernel)
theorem t_551 : (Cond.static yJ6_getChars_ba4f3) ∈ lw_good := t_of (i := 551) (by decide +kernel) (by decide +kernel)
theorem t_552 : (Cond.code yJ6_getChars_ba4f3 cJ6_getChars_ba4f3 7 (some FieldType.int)) ∈ lw_good := t_of (i := 552) (by decide +kernel) (by decide +kernel)
theorem t_553 : (Cond.fieldLink RJ6 83 "java/lang/Integer" "DigitOnes" "[B") ∈ lw_good := t_of (i := 553) (by decide +kernel) (by decide +kernel)
theorem t_555 : (Cond.fieldLink RJ6 87 "java/lang/Integer" "DigitTens" "[B") ∈ lw_good := t_of (i := 555) (by decide +kernel) (by decide +kernel)
theorem t_566 : (Cond.methodLink RJx4a65c 32 ⟨"java/lang/StringBuilder", "toString", "()Ljava/lang/String;"⟩) ∈ lw_good := t_of (i := 566) (by decide +kernel) (by decide +kernel)
theorem t_571 : (Cond.instantiable "java/lang/String" 4) ∈ lw_good := t_of (i := 571) (by decide +kernel) (by decide +kernel)
theorem t_594 : (Cond.static yJ7_copyOfRange_39247) ∈ lw_good := t_of (i := 594) (by decide +kernel) (by decide +kernel)
theorem t_595 : (Cond.code yJ7_copyOfRange_39247 cJ7_copyOfRange_39247 3 (Option.some (FieldType.array FieldType.byte))) ∈ lw_good := t_of (i := 595) (by decide +kernel) (by decide +kernel)
theorem t_596 : (Cond.methodLink RJ7 339 yJ7_copyOfRangeByte_39247) ∈ lw_good := t_of (i := 596) (by decide +kernel) (by decide +kernel)
theorem t_597 : (Cond.static yJ7_copyOfRangeByte_39247) ∈ lw_good := t_of (i := 597) (by decide +kernel) (by decide +kernel)
theorem t_598 : (Cond.code yJ7_copyOfRangeByte_39247 cJ7_copyOfRangeByte_39247 5 (Option.some (FieldType.array FieldType.byte))) ∈ lw_good := t_of (i := 598) (by decide +kernel) (by decide +kernel)
theorem t_599 : (Cond.methodLink RJ7 343 yJ7_checkLength_df160) ∈ lw_good := t_of (i := 599) (by decide +kernel) (by decide +kernel)
theorem t_600 : (Cond.static yJ7_checkLength_df160) ∈ lw_good := t_of (i := 600) (by decide +kernel) (by decide +kernel)
theorem t_601 : (Cond.code yJ7_checkLength_df160 cJ7_checkLength_df160 2 none) ∈ lw_good := t_of (i := 601) (by decide +kernel) (by decide +kernel)
theorem t_602 : (Cond.classLink RJ7 43 "java/lang/IllegalArgumentException") ∈ lw_good := t_of (i := 602) (by decide +kernel) (by decide +kernel)
theorem t_603 : (Cond.classLink RJ7 45 "java/lang/StringBuilder") ∈ lw_good := t_of (i := 603) (by decide +kernel) (by decide +kernel)
theorem t_604 : (Cond.methodLink RJ7 47 ⟨"java/lang/StringBuilder", "<init>", "()V"⟩) ∈ lw_good := t_of (i := 604) (by decide +kernel) (by decide +kernel)
theorem t_605 : (Cond.methodLink RJ7 54 ⟨"java/lang/StringBuilder", "append", "(I)Ljava/lang/StringBuilder;"⟩) ∈ lw_good := t_of (i := 605) (by decide +kernel) (by decide +kernel)
theorem t_607 : (Cond.methodLink RJ7 50 ⟨"java/lang/StringBuilder", "append", "(Ljava/lang/String;)Ljava/lang/StringBuilder;"⟩) ∈ lw_good := t_of (i := 607) (by decide +kernel) (by decide +kernel)
theorem t_608 : (Cond.methodLink RJ7 61 ⟨"java/lang/StringBuilder", "toString", "()Ljava/lang/String;"⟩) ∈ lw_good := t_of (i := 608) (by decide +kernel) (by decide +kernel)
theorem t_609 : (Cond.methodLink RJ7 65 ⟨"java/lang/IllegalArgumentException", "<init>", "(Ljava/lang/String;)V"⟩) ∈ lw_good := t_of (i := 609) (by decide +kernel) (by decide +kernel)
theorem t_634 : (Cond.methodLink RJx4a65c 193 ⟨"java/lang/IndexOutOfBoundsException", "<init>", "(Ljava/lang/String;)V"⟩) ∈ lw_good := t_of (i := 634) (by decide +kernel) (by decide +kernel)
theorem t_640 : (Cond.methodLink RJx4a65c 129 yJx4a65c_grow_d5877) ∈ lw_good := t_of (i := 640) (by decide +kernel) (by decide +kernel)
theorem t_642 : (Cond.instanceMethod yJx4a65c_grow_d5877) ∈ lw_good := t_of (i := 642) (by decide +kernel) (by decide +kernel)
theorem t_643 : (Cond.code yJx4a65c_grow_d5877 cJx4a65c_grow_d5877 1 (Option.some (FieldType.array (FieldType.object "java/lang/Object")))) ∈ lw_good := t_of (i := 643) (by decide +kernel) (by decide +kernel)
theorem t_644 : (Cond.methodLink RJx4a65c 69 yJx4a65c_grow_92f84) ∈ lw_good := t_of (i := 644) (by decide +kernel) (by decide +kernel)
theorem t_646 : (Cond.instanceMethod yJx4a65c_grow_92f84) ∈ lw_good := t_of (i := 646) (by decide +kernel) (by decide +kernel)
theorem t_647 : (Cond.code yJx4a65c_grow_92f84 cJx4a65c_grow_92f84 4 (Option.some (FieldType.array (FieldType.object "java/lang/Object")))) ∈ lw_good := t_of (i := 647) (by decide +kernel) (by decide +kernel)
theorem t_648 : (Cond.methodLink RJx4a65c 73 yJ8_newLength_cabcc) ∈ lw_good := t_of (i := 648) (by decide +kernel) (by decide +kernel)
theorem t_649 : (Cond.methodLink RJx4a65c 66 yJ7_copyOf_1904c) ∈ lw_good := t_of (i := 649) (by decide +kernel) (by decide +kernel)
theorem t_650 : (Cond.static yJ7_copyOf_1904c) ∈ lw_good := t_of (i := 650) (by decide +kernel) (by decide +kernel)
theorem t_651 : (Cond.code yJ7_copyOf_1904c cJ7_copyOf_1904c 2 (Option.some (FieldType.array (FieldType.object "java/lang/Object")))) ∈ lw_good := t_of (i := 651) (by decide +kernel) (by decide +kernel)
theorem t_652 : (Cond.methodLink RJ7 86 ⟨"java/lang/Object", "getClass", "()Ljava/lang/Class;"⟩) ∈ lw_good := t_of (i := 652) (by decide +kernel) (by decide +kernel)
theorem t_653 : (Cond.instanceMethod ⟨"java/lang/Object", "getClass", "()Ljava/lang/Class;"⟩) ∈ lw_good := t_of (i := 653) (by decide +kernel) (by decide +kernel)
theorem t_655 : (Cond.selects RX6 ⟨"java/lang/Object", "getClass", "()Ljava/lang/Class;"⟩ ⟨"java/lang/Object", "getClass", "()Ljava/lang/Class;"⟩) ∈ lw_good := t_of (i := 655) (by decide +kernel) (by decide +kernel)
theorem t_656 : (Cond.selects RX0 ⟨"java/lang/Object", "getClass", "()Ljava/lang/Class;"⟩ ⟨"java/lang/Object", "getClass", "()Ljava/lang/Class;"⟩) ∈ lw_good := t_of (i := 656) (by decide +kernel) (by decide +kernel)
theorem t_657 : (Cond.selects RX1 ⟨"java/lang/Object", "getClass", "()Ljava/lang/Class;"⟩ ⟨"java/lang/Object", "getClass", "()Ljava/lang/Class;"⟩) ∈ lw_good := t_of (i := 657) (by decide +kernel) (by decide +kernel)
theorem t_658 : (Cond.selects RX2 ⟨"java/lang/Object", "getClass", "()Ljava/lang/Class;"⟩ ⟨"java/lang/Object", "getClass", "()Ljava/lang/Class;"⟩) ∈ lw_good := t_of (i := 658) (by decide +kernel) (by decide +kernel)
theorem t_659 : (Cond.selects RX3 ⟨"java/lang/Object", "getClass", "()Ljava/lang/Class;"⟩ ⟨"java/lang/Object", "getClass", "()Ljava/lang/Class;"⟩) ∈ lw_good := t_of (i := 659) (by decide +kernel) (by decide +kernel)
theorem t_660 : (Cond.selects RX4 ⟨"java/lang/Object", "getClass", "()Ljava/lang/Class;"⟩ ⟨"java/lang/Object", "getClass", "()Ljava/lang/Class;"⟩) ∈ lw_good := t_of (i := 660) (by decide +kernel) (by decide +kernel)
theorem t_661 : (Cond.selects RX5 ⟨"java/lang/Object", "getClass", "()Ljava/lang/Class;"⟩ ⟨"java/lang/Object", "getClass", "()Ljava/lang/Class;"⟩) ∈ lw_good := t_of (i := 661) (by decide +kernel) (by decide +kernel)
theorem t_662 : (Cond.selects RX7 ⟨"java/lang/Object", "getClass", "()Ljava/lang/Class;"⟩ ⟨"java/lang/Object", "getClass", "()Ljava/lang/Class;"⟩) ∈ lw_good := t_of (i := 662) (by decide +kernel) (by decide +kernel)
theorem t_671 : (Cond.selects RJx4a65c ⟨"java/lang/Object", "getClass", "()Ljava/lang/Class;"⟩ ⟨"java/lang/Object", "getClass", "()Ljava/lang/Class;"⟩) ∈ lw_good := t_of (i := 671) (by decide +kernel) (by decide +kernel)
theorem t_674 : (Cond.methodLink RJ7 300 yJ7_copyOf_6403c) ∈ lw_good := t_of (i := 674) (by decide +kernel) (by decide +kernel)
theorem t_675 : (Cond.static yJ7_copyOf_6403c) ∈ lw_good := t_of (i := 675) (by decide +kernel) (by decide +kernel)
theorem t_676 : (Cond.code yJ7_copyOf_6403c cJ7_copyOf_6403c 4 (Option.some (FieldType.array (FieldType.object "java/lang/Object")))) ∈ lw_good := t_of (i := 676) (by decide +kernel) (by decide +kernel)
theorem t_677 : (Cond.classLink RJ7 110 "[Ljava/lang/Object;") ∈ lw_good := t_of (i := 677) (by decide +kernel) (by decide +kernel)
theorem t_679 : (Cond.classLink RJ7 2 "java/lang/Object") ∈ lw_good := t_of (i := 679) (by decide +kernel) (by decide +kernel)
theorem t_680 : (Cond.methodLink RJx4a65c 79 yJ9_max_7cf53) ∈ lw_good := t_of (i := 680) (by decide +kernel) (by decide +kernel)
theorem t_681 : (Cond.classLink RJx4a65c 7 "java/lang/Object") ∈ lw_good := t_of (i := 681) (by decide +kernel) (by decide +kernel)
theorem t_682 : (Cond.methodLink RL 156 yL_setPromise) ∈ lw_good := t_of (i := 682) (by decide +kernel) (by decide +kernel)
theorem t_683 : (Cond.static yL_setPromise) ∈ lw_good := t_of (i := 683) (by decide +kernel) (by decide +kernel)
theorem t_684 : (Cond.codeWith yL_setPromise cL_setPromise 5 (some FieldType.int) [(0, 10, 13, 13)]) ∈ lw_good := t_of (i := 684) (by decide +kernel) (by decide +kernel)
theorem t_685 : (Cond.methodLink RL 19 yX6_setPromise) ∈ lw_good := t_of (i := 685) (by decide +kernel) (by decide +kernel)
theorem t_686 : (Cond.instanceMethod yX6_setPromise) ∈ lw_good := t_of (i := 686) (by decide +kernel) (by decide +kernel)
theorem t_687 : (Cond.selects RX6 yX6_setPromise yX6_setPromise) ∈ lw_good := t_of (i := 687) (by decide +kernel) (by decide +kernel)
theorem t_688 : (Cond.code yX6_setPromise cX6_setPromise 4 (some FieldType.int)) ∈ lw_good := t_of (i := 688) (by decide +kernel) (by decide +kernel)
theorem t_690 : (Cond.methodLink RL 159 yL_mail) ∈ lw_good := t_of (i := 690) (by decide +kernel) (by decide +kernel)
theorem t_691 : (Cond.static yL_mail) ∈ lw_good := t_of (i := 691) (by decide +kernel) (by decide +kernel)
theorem t_692 : (Cond.codeWith yL_mail cL_mail 8 (some FieldType.int) [(0, 16, 19, 13), (0, 16, 23, 26), (0, 16, 27, 28)]) ∈ lw_good := t_of (i := 692) (by decide +kernel) (by decide +kernel)
theorem t_693 : (Cond.classLink RL 26 "java/util/NoSuchElementException") ∈ lw_good := t_of (i := 693) (by decide +kernel) (by decide +kernel)
theorem t_694 : (Cond.classLink RL 28 "java/lang/IllegalStateException") ∈ lw_good := t_of (i := 694) (by decide +kernel) (by decide +kernel)
theorem t_695 : (Cond.methodLink RL 22 yX6_mail) ∈ lw_good := t_of (i := 695) (by decide +kernel) (by decide +kernel)
theorem t_696 : (Cond.instanceMethod yX6_mail) ∈ lw_good := t_of (i := 696) (by decide +kernel) (by decide +kernel)
theorem t_697 : (Cond.selects RX6 yX6_mail yX6_mail) ∈ lw_good := t_of (i := 697) (by decide +kernel) (by decide +kernel)
theorem t_698 : (Cond.code yX6_mail cX6_mail 8 (some FieldType.int)) ∈ lw_good := t_of (i := 698) (by decide +kernel) (by decide +kernel)
theorem t_699 : (Cond.methodLink RX6 101 yX6_isTopic) ∈ lw_good := t_of (i := 699) (by decide +kernel) (by decide +kernel)
theorem t_700 : (Cond.static yX6_isTopic) ∈ lw_good := t_of (i := 700) (by decide +kernel) (by decide +kernel)
theorem t_701 : (Cond.code yX6_isTopic cX6_isTopic 1 (some FieldType.boolean)) ∈ lw_good := t_of (i := 701) (by decide +kernel) (by decide +kernel)
theorem t_702 : (Cond.methodLink RX6 104 yX6_areWords) ∈ lw_good := t_of (i := 702) (by decide +kernel) (by decide +kernel)
theorem t_703 : (Cond.static yX6_areWords) ∈ lw_good := t_of (i := 703) (by decide +kernel) (by decide +kernel)
theorem t_704 : (Cond.code yX6_areWords cX6_areWords 1 (some FieldType.boolean)) ∈ lw_good := t_of (i := 704) (by decide +kernel) (by decide +kernel)
theorem t_706 : (Cond.classLink RX6 109 "java/util/NoSuchElementException") ∈ lw_good := t_of (i := 706) (by decide +kernel) (by decide +kernel)
theorem t_707 : (Cond.instantiable "java/util/NoSuchElementException" 6) ∈ lw_good := t_of (i := 707) (by decide +kernel) (by decide +kernel)
theorem t_716 : (Cond.methodLink RX6 113 ⟨"java/util/NoSuchElementException", "<init>", "(Ljava/lang/String;)V"⟩) ∈ lw_good := t_of (i := 716) (by decide +kernel) (by decide +kernel)
theorem t_722 : (Cond.methodLink RX6 114 yX6_ticketToJoin) ∈ lw_good := t_of (i := 722) (by decide +kernel) (by decide +kernel)
theorem t_724 : (Cond.instanceMethod yX6_ticketToJoin) ∈ lw_good := t_of (i := 724) (by decide +kernel) (by decide +kernel)
theorem t_725 : (Cond.code yX6_ticketToJoin cX6_ticketToJoin 5 (Option.some (FieldType.object "TicketWeaver$Ticket"))) ∈ lw_good := t_of (i := 725) (by decide +kernel) (by decide +kernel)
theorem t_726 : (Cond.classLink RX6 146 "TicketWeaver$Mail") ∈ lw_good := t_of (i := 726) (by decide +kernel) (by decide +kernel)
theorem t_727 : (Cond.methodLink RX6 354 yX4_canBeJoined) ∈ lw_good := t_of (i := 727) (by decide +kernel) (by decide +kernel)
theorem t_728 : (Cond.instanceMethod yX4_canBeJoined) ∈ lw_good := t_of (i := 728) (by decide +kernel) (by decide +kernel)
theorem t_729 : (Cond.selects RX4 yX4_canBeJoined yX4_canBeJoined) ∈ lw_good := t_of (i := 729) (by decide +kernel) (by decide +kernel)
theorem t_730 : (Cond.code yX4_canBeJoined cX4_canBeJoined 2 (some FieldType.boolean)) ∈ lw_good := t_of (i := 730) (by decide +kernel) (by decide +kernel)
theorem t_731 : (Cond.methodLink RX6 357 yX6_latestWithSubject) ∈ lw_good := t_of (i := 731) (by decide +kernel) (by decide +kernel)
theorem t_733 : (Cond.instanceMethod yX6_latestWithSubject) ∈ lw_good := t_of (i := 733) (by decide +kernel) (by decide +kernel)
theorem t_734 : (Cond.code yX6_latestWithSubject cX6_latestWithSubject 7 (Option.some (FieldType.object "TicketWeaver$Ticket"))) ∈ lw_good := t_of (i := 734) (by decide +kernel) (by decide +kernel)
theorem t_735 : (Cond.methodLink RX6 364 yX4_lastMail) ∈ lw_good := t_of (i := 735) (by decide +kernel) (by decide +kernel)
theorem t_736 : (Cond.instanceMethod yX4_lastMail) ∈ lw_good := t_of (i := 736) (by decide +kernel) (by decide +kernel)
theorem t_737 : (Cond.selects RX4 yX4_lastMail yX4_lastMail) ∈ lw_good := t_of (i := 737) (by decide +kernel) (by decide +kernel)
theorem t_738 : (Cond.code yX4_lastMail cX4_lastMail 1 (some FieldType.int)) ∈ lw_good := t_of (i := 738) (by decide +kernel) (by decide +kernel)
theorem t_739 : (Cond.methodLink RX4 96 yJx4a65c_isEmpty_aae02) ∈ lw_good := t_of (i := 739) (by decide +kernel) (by decide +kernel)
theorem t_740 : (Cond.classLink RX6 118 "java/lang/IllegalStateException") ∈ lw_good := t_of (i := 740) (by decide +kernel) (by decide +kernel)
theorem t_741 : (Cond.instantiable "java/lang/IllegalStateException" 6) ∈ lw_good := t_of (i := 741) (by decide +kernel) (by decide +kernel)
theorem t_750 : (Cond.methodLink RX6 122 ⟨"java/lang/IllegalStateException", "<init>", "(Ljava/lang/String;)V"⟩) ∈ lw_good := t_of (i := 750) (by decide +kernel) (by decide +kernel)
theorem t_756 : (Cond.instantiable RX4 14) ∈ lw_good := t_of (i := 756) (by decide +kernel) (by decide +kernel)
theorem t_757 : (Cond.methodLink RX6 123 yX4_init) ∈ lw_good := t_of (i := 757) (by decide +kernel) (by decide +kernel)
theorem t_758 : (Cond.instanceMethod yX4_init) ∈ lw_good := t_of (i := 758) (by decide +kernel) (by decide +kernel)
theorem t_759 : (Cond.code yX4_init cX4_init 5 none) ∈ lw_good := t_of (i := 759) (by decide +kernel) (by decide +kernel)
theorem t_760 : (Cond.methodLink RX4 3 ⟨"java/lang/Object", "<init>", "()V"⟩) ∈ lw_good := t_of (i := 760) (by decide +kernel) (by decide +kernel)
theorem t_761 : (Cond.classLink RX4 25 "java/util/ArrayList") ∈ lw_good := t_of (i := 761) (by decide +kernel) (by decide +kernel)
theorem t_762 : (Cond.methodLink RX4 27 yJx4a65c_init_da8c8) ∈ lw_good := t_of (i := 762) (by decide +kernel) (by decide +kernel)
theorem t_763 : (Cond.fieldLink RX4 9 "TicketWeaver$Ticket" "number" "I") ∈ lw_good := t_of (i := 763) (by decide +kernel) (by decide +kernel)
theorem t_765 : (Cond.fieldLink RX4 15 "TicketWeaver$Ticket" "customer" "LTicketWeaver$Customer;") ∈ lw_good := t_of (i := 765) (by decide +kernel) (by decide +kernel)
theorem t_767 : (Cond.fieldLink RX4 19 "TicketWeaver$Ticket" "subject" "I") ∈ lw_good := t_of (i := 767) (by decide +kernel) (by decide +kernel)
theorem t_769 : (Cond.fieldLink RX4 28 "TicketWeaver$Ticket" "mails" "Ljava/util/ArrayList;") ∈ lw_good := t_of (i := 769) (by decide +kernel) (by decide +kernel)
theorem t_771 : (Cond.fieldLink RX4 22 "TicketWeaver$Ticket" "topic" "I") ∈ lw_good := t_of (i := 771) (by decide +kernel) (by decide +kernel)
theorem t_773 : (Cond.fieldLink RX4 104 "TicketWeaver$Ticket" "words" "I") ∈ lw_good := t_of (i := 773) (by decide +kernel) (by decide +kernel)
theorem t_775 : (Cond.fieldLink RX4 32 "TicketWeaver$Ticket" "state" "C") ∈ lw_good := t_of (i := 775) (by decide +kernel) (by decide +kernel)
theorem t_777 : (Cond.fieldLink RX4 52 "TicketWeaver$Ticket" "clock" "I") ∈ lw_good := t_of (i := 777) (by decide +kernel) (by decide +kernel)
theorem t_779 : (Cond.fieldLink RX4 59 "TicketWeaver$Ticket" "isBroken" "Z") ∈ lw_good := t_of (i := 779) (by decide +kernel) (by decide +kernel)
theorem t_781 : (Cond.fieldLink RX4 36 "TicketWeaver$Ticket" "agent" "LTicketWeaver$Agent;") ∈ lw_good := t_of (i := 781) (by decide +kernel) (by decide +kernel)
theorem t_784 : (Cond.fieldLink RX4 63 "TicketWeaver$Ticket" "sent" "LTicketWeaver$Prepared;") ∈ lw_good := t_of (i := 784) (by decide +kernel) (by decide +kernel)
theorem t_786 : (Cond.fieldLink RX4 40 "TicketWeaver$Ticket" "closedAt" "I") ∈ lw_good := t_of (i := 786) (by decide +kernel) (by decide +kernel)
theorem t_789 : (Cond.fieldLink RX4 116 "TicketWeaver$Ticket" "into" "LTicketWeaver$Ticket;") ∈ lw_good := t_of (i := 789) (by decide +kernel) (by decide +kernel)
theorem t_819 : (Cond.methodLink RX6 126 yJx4a65c_add_9ea2d) ∈ lw_good := t_of (i := 819) (by decide +kernel) (by decide +kernel)
theorem t_820 : (Cond.instanceMethod yJx4a65c_add_9ea2d) ∈ lw_good := t_of (i := 820) (by decide +kernel) (by decide +kernel)
theorem t_821 : (Cond.selects RJx4a65c yJx4a65c_add_9ea2d yJx4a65c_add_9ea2d) ∈ lw_good := t_of (i := 821) (by decide +kernel) (by decide +kernel)
theorem t_822 : (Cond.code yJx4a65c_add_9ea2d cJx4a65c_add_9ea2d 2 (some FieldType.boolean)) ∈ lw_good := t_of (i := 822) (by decide +kernel) (by decide +kernel)
theorem t_823 : (Cond.methodLink RJx4a65c 131 yJx4a65c_add_72be8) ∈ lw_good := t_of (i := 823) (by decide +kernel) (by decide +kernel)
theorem t_825 : (Cond.instanceMethod yJx4a65c_add_72be8) ∈ lw_good := t_of (i := 825) (by decide +kernel) (by decide +kernel)
theorem t_826 : (Cond.code yJx4a65c_add_72be8 cJx4a65c_add_72be8 4 none) ∈ lw_good := t_of (i := 826) (by decide +kernel) (by decide +kernel)
theorem t_827 : (Cond.methodLink RX6 130 yX6_leaveQueue) ∈ lw_good := t_of (i := 827) (by decide +kernel) (by decide +kernel)
theorem t_829 : (Cond.instanceMethod yX6_leaveQueue) ∈ lw_good := t_of (i := 829) (by decide +kernel) (by decide +kernel)
theorem t_830 : (Cond.code yX6_leaveQueue cX6_leaveQueue 2 none) ∈ lw_good := t_of (i := 830) (by decide +kernel) (by decide +kernel)
theorem t_831 : (Cond.methodLink RX6 380 yX5_remove) ∈ lw_good := t_of (i := 831) (by decide +kernel) (by decide +kernel)
theorem t_832 : (Cond.instanceMethod yX5_remove) ∈ lw_good := t_of (i := 832) (by decide +kernel) (by decide +kernel)
theorem t_833 : (Cond.selects RX5 yX5_remove yX5_remove) ∈ lw_good := t_of (i := 833) (by decide +kernel) (by decide +kernel)
theorem t_834 : (Cond.code yX5_remove cX5_remove 3 none) ∈ lw_good := t_of (i := 834) (by decide +kernel) (by decide +kernel)
theorem t_835 : (Cond.methodLink RX6 134 yX6_addMail) ∈ lw_good := t_of (i := 835) (by decide +kernel) (by decide +kernel)
theorem t_837 : (Cond.instanceMethod yX6_addMail) ∈ lw_good := t_of (i := 837) (by decide +kernel) (by decide +kernel)
theorem t_838 : (Cond.code yX6_addMail cX6_addMail 4 none) ∈ lw_good := t_of (i := 838) (by decide +kernel) (by decide +kernel)
theorem t_839 : (Cond.instantiable RX2 2) ∈ lw_good := t_of (i := 839) (by decide +kernel) (by decide +kernel)
theorem t_840 : (Cond.methodLink RX6 367 yX2_init) ∈ lw_good := t_of (i := 840) (by decide +kernel) (by decide +kernel)
theorem t_841 : (Cond.instanceMethod yX2_init) ∈ lw_good := t_of (i := 841) (by decide +kernel) (by decide +kernel)
theorem t_842 : (Cond.code yX2_init cX2_init 3 none) ∈ lw_good := t_of (i := 842) (by decide +kernel) (by decide +kernel)
theorem t_843 : (Cond.methodLink RX2 1 ⟨"java/lang/Object", "<init>", "()V"⟩) ∈ lw_good := t_of (i := 843) (by decide +kernel) (by decide +kernel)
theorem t_844 : (Cond.fieldLink RX2 7 "TicketWeaver$Mail" "number" "I") ∈ lw_good := t_of (i := 844) (by decide +kernel) (by decide +kernel)
theorem t_847 : (Cond.fieldLink RX2 13 "TicketWeaver$Mail" "ticket" "LTicketWeaver$Ticket;") ∈ lw_good := t_of (i := 847) (by decide +kernel) (by decide +kernel)
theorem t_855 : (Cond.methodLink RX6 370 yX4_insertMail) ∈ lw_good := t_of (i := 855) (by decide +kernel) (by decide +kernel)
theorem t_856 : (Cond.instanceMethod yX4_insertMail) ∈ lw_good := t_of (i := 856) (by decide +kernel) (by decide +kernel)
theorem t_857 : (Cond.selects RX4 yX4_insertMail yX4_insertMail) ∈ lw_good := t_of (i := 857) (by decide +kernel) (by decide +kernel)
theorem t_858 : (Cond.code yX4_insertMail cX4_insertMail 3 none) ∈ lw_good := t_of (i := 858) (by decide +kernel) (by decide +kernel)
theorem t_859 : (Cond.methodLink RX4 88 yJx4a65c_add_7a177) ∈ lw_good := t_of (i := 859) (by decide +kernel) (by decide +kernel)
theorem t_860 : (Cond.methodLink RX6 377 yX4_beginAnew) ∈ lw_good := t_of (i := 860) (by decide +kernel) (by decide +kernel)
theorem t_861 : (Cond.instanceMethod yX4_beginAnew) ∈ lw_good := t_of (i := 861) (by decide +kernel) (by decide +kernel)
theorem t_862 : (Cond.selects RX4 yX4_beginAnew yX4_beginAnew) ∈ lw_good := t_of (i := 862) (by decide +kernel) (by decide +kernel)
theorem t_863 : (Cond.code yX4_beginAnew cX4_beginAnew 1 none) ∈ lw_good := t_of (i := 863) (by decide +kernel) (by decide +kernel)
theorem t_864 : (Cond.methodLink RX4 67 yX3_loseWeight) ∈ lw_good := t_of (i := 864) (by decide +kernel) (by decide +kernel)
theorem t_865 : (Cond.instanceMethod yX3_loseWeight) ∈ lw_good := t_of (i := 865) (by decide +kernel) (by decide +kernel)
theorem t_866 : (Cond.selects RX3 yX3_loseWeight yX3_loseWeight) ∈ lw_good := t_of (i := 866) (by decide +kernel) (by decide +kernel)
theorem t_867 : (Cond.code yX3_loseWeight cX3_loseWeight 2 none) ∈ lw_good := t_of (i := 867) (by decide +kernel) (by decide +kernel)
theorem t_868 : (Cond.methodLink RX3 25 yJ9_max_7cf53) ∈ lw_good := t_of (i := 868) (by decide +kernel) (by decide +kernel)
theorem t_869 : (Cond.methodLink RX6 138 yX6_joinQueue) ∈ lw_good := t_of (i := 869) (by decide +kernel) (by decide +kernel)
theorem t_871 : (Cond.instanceMethod yX6_joinQueue) ∈ lw_good := t_of (i := 871) (by decide +kernel) (by decide +kernel)
theorem t_872 : (Cond.code yX6_joinQueue cX6_joinQueue 2 none) ∈ lw_good := t_of (i := 872) (by decide +kernel) (by decide +kernel)
theorem t_873 : (Cond.methodLink RX6 386 yX5_add) ∈ lw_good := t_of (i := 873) (by decide +kernel) (by decide +kernel)
theorem t_874 : (Cond.instanceMethod yX5_add) ∈ lw_good := t_of (i := 874) (by decide +kernel) (by decide +kernel)
theorem t_875 : (Cond.selects RX5 yX5_add yX5_add) ∈ lw_good := t_of (i := 875) (by decide +kernel) (by decide +kernel)
theorem t_876 : (Cond.code yX5_add cX5_add 2 none) ∈ lw_good := t_of (i := 876) (by decide +kernel) (by decide +kernel)
theorem t_877 : (Cond.methodLink RL 163 yL_ticketOf) ∈ lw_good := t_of (i := 877) (by decide +kernel) (by decide +kernel)
theorem t_878 : (Cond.static yL_ticketOf) ∈ lw_good := t_of (i := 878) (by decide +kernel) (by decide +kernel)
theorem t_879 : (Cond.codeWith yL_ticketOf cL_ticketOf 4 (some FieldType.int) [(0, 9, 12, 26)]) ∈ lw_good := t_of (i := 879) (by decide +kernel) (by decide +kernel)
theorem t_880 : (Cond.methodLink RL 30 yX6_ticketOf) ∈ lw_good := t_of (i := 880) (by decide +kernel) (by decide +kernel)
theorem t_881 : (Cond.instanceMethod yX6_ticketOf) ∈ lw_good := t_of (i := 881) (by decide +kernel) (by decide +kernel)
theorem t_882 : (Cond.selects RX6 yX6_ticketOf yX6_ticketOf) ∈ lw_good := t_of (i := 882) (by decide +kernel) (by decide +kernel)
theorem t_883 : (Cond.code yX6_ticketOf cX6_ticketOf 2 (some FieldType.int)) ∈ lw_good := t_of (i := 883) (by decide +kernel) (by decide +kernel)
theorem t_885 : (Cond.methodLink RL 170 yL_mailsOf) ∈ lw_good := t_of (i := 885) (by decide +kernel) (by decide +kernel)
theorem t_886 : (Cond.static yL_mailsOf) ∈ lw_good := t_of (i := 886) (by decide +kernel) (by decide +kernel)
theorem t_887 : (Cond.codeWith yL_mailsOf cL_mailsOf 4 (some FieldType.int) [(0, 9, 12, 36)]) ∈ lw_good := t_of (i := 887) (by decide +kernel) (by decide +kernel)
theorem t_888 : (Cond.classLink RL 36 "java/lang/IndexOutOfBoundsException") ∈ lw_good := t_of (i := 888) (by decide +kernel) (by decide +kernel)
theorem t_889 : (Cond.instantiable "java/lang/ArrayIndexOutOfBoundsException" 6) ∈ lw_good := t_of (i := 889) (by decide +kernel) (by decide +kernel)
theorem t_904 : (Cond.methodLink RL 33 yX6_mailsOf) ∈ lw_good := t_of (i := 904) (by decide +kernel) (by decide +kernel)
theorem t_905 : (Cond.instanceMethod yX6_mailsOf) ∈ lw_good := t_of (i := 905) (by decide +kernel) (by decide +kernel)
theorem t_906 : (Cond.selects RX6 yX6_mailsOf yX6_mailsOf) ∈ lw_good := t_of (i := 906) (by decide +kernel) (by decide +kernel)
theorem t_907 : (Cond.code yX6_mailsOf cX6_mailsOf 2 (some FieldType.int)) ∈ lw_good := t_of (i := 907) (by decide +kernel) (by decide +kernel)
theorem t_908 : (Cond.methodLink RX6 152 yX6_ticketNumbered) ∈ lw_good := t_of (i := 908) (by decide +kernel) (by decide +kernel)
theorem t_910 : (Cond.instanceMethod yX6_ticketNumbered) ∈ lw_good := t_of (i := 910) (by decide +kernel) (by decide +kernel)
theorem t_911 : (Cond.code yX6_ticketNumbered cX6_ticketNumbered 2 (Option.some (FieldType.object "TicketWeaver$Ticket"))) ∈ lw_good := t_of (i := 911) (by decide +kernel) (by decide +kernel)
theorem t_912 : (Cond.classLink RX6 345 "java/lang/IndexOutOfBoundsException") ∈ lw_good := t_of (i := 912) (by decide +kernel) (by decide +kernel)
theorem t_914 : (Cond.methodLink RX6 349 ⟨"java/lang/IndexOutOfBoundsException", "<init>", "(Ljava/lang/String;)V"⟩) ∈ lw_good := t_of (i := 914) (by decide +kernel) (by decide +kernel)
theorem t_915 : (Cond.methodLink RL 173 yL_mailAt) ∈ lw_good := t_of (i := 915) (by decide +kernel) (by decide +kernel)
theorem t_916 : (Cond.static yL_mailAt) ∈ lw_good := t_of (i := 916) (by decide +kernel) (by decide +kernel)
theorem t_917 : (Cond.codeWith yL_mailAt cL_mailAt 5 (some FieldType.int) [(0, 10, 13, 36), (0, 10, 17, 26)]) ∈ lw_good := t_of (i := 917) (by decide +kernel) (by decide +kernel)
theorem t_918 : (Cond.methodLink RL 38 yX6_mailAt) ∈ lw_good := t_of (i := 918) (by decide +kernel) (by decide +kernel)
theorem t_919 : (Cond.instanceMethod yX6_mailAt) ∈ lw_good := t_of (i := 919) (by decide +kernel) (by decide +kernel)
theorem t_920 : (Cond.selects RX6 yX6_mailAt yX6_mailAt) ∈ lw_good := t_of (i := 920) (by decide +kernel) (by decide +kernel)
theorem t_921 : (Cond.code yX6_mailAt cX6_mailAt 4 (some FieldType.int)) ∈ lw_good := t_of (i := 921) (by decide +kernel) (by decide +kernel)
theorem t_923 : (Cond.methodLink RL 180 yL_stateOf) ∈ lw_good := t_of (i := 923) (by decide +kernel) (by decide +kernel)
theorem t_924 : (Cond.static yL_stateOf) ∈ lw_good := t_of (i := 924) (by decide +kernel) (by decide +kernel)
theorem t_925 : (Cond.codeWith yL_stateOf cL_stateOf 4 (some FieldType.int) [(0, 9, 12, 36)]) ∈ lw_good := t_of (i := 925) (by decide +kernel) (by decide +kernel)
theorem t_926 : (Cond.methodLink RL 41 yX6_stateOf) ∈ lw_good := t_of (i := 926) (by decide +kernel) (by decide +kernel)
theorem t_927 : (Cond.instanceMethod yX6_stateOf) ∈ lw_good := t_of (i := 927) (by decide +kernel) (by decide +kernel)
theorem t_928 : (Cond.selects RX6 yX6_stateOf yX6_stateOf) ∈ lw_good := t_of (i := 928) (by decide +kernel) (by decide +kernel)
theorem t_929 : (Cond.code yX6_stateOf cX6_stateOf 2 (some FieldType.char)) ∈ lw_good := t_of (i := 929) (by decide +kernel) (by decide +kernel)
theorem t_930 : (Cond.methodLink RL 183 yL_mergedInto) ∈ lw_good := t_of (i := 930) (by decide +kernel) (by decide +kernel)
theorem t_931 : (Cond.static yL_mergedInto) ∈ lw_good := t_of (i := 931) (by decide +kernel) (by decide +kernel)
theorem t_932 : (Cond.codeWith yL_mergedInto cL_mergedInto 4 (some FieldType.int) [(0, 9, 12, 36), (0, 9, 15, 26)]) ∈ lw_good := t_of (i := 932) (by decide +kernel) (by decide +kernel)
theorem t_933 : (Cond.methodLink RL 45 yX6_mergedInto) ∈ lw_good := t_of (i := 933) (by decide +kernel) (by decide +kernel)
theorem t_934 : (Cond.instanceMethod yX6_mergedInto) ∈ lw_good := t_of (i := 934) (by decide +kernel) (by decide +kernel)
theorem t_935 : (Cond.selects RX6 yX6_mergedInto yX6_mergedInto) ∈ lw_good := t_of (i := 935) (by decide +kernel) (by decide +kernel)
theorem t_936 : (Cond.code yX6_mergedInto cX6_mergedInto 3 (some FieldType.int)) ∈ lw_good := t_of (i := 936) (by decide +kernel) (by decide +kernel)
theorem t_938 : (Cond.methodLink RL 186 yL_setTopic) ∈ lw_good := t_of (i := 938) (by decide +kernel) (by decide +kernel)
theorem t_939 : (Cond.static yL_setTopic) ∈ lw_good := t_of (i := 939) (by decide +kernel) (by decide +kernel)
theorem t_940 : (Cond.codeWith yL_setTopic cL_setTopic 5 (some FieldType.int) [(0, 10, 13, 36), (0, 10, 17, 13), (0, 10, 21, 28)]) ∈ lw_good := t_of (i := 940) (by decide +kernel) (by decide +kernel)
theorem t_941 : (Cond.methodLink RL 48 yX6_setTopic) ∈ lw_good := t_of (i := 941) (by decide +kernel) (by decide +kernel)
theorem t_942 : (Cond.instanceMethod yX6_setTopic) ∈ lw_good := t_of (i := 942) (by decide +kernel) (by decide +kernel)
theorem t_943 : (Cond.selects RX6 yX6_setTopic yX6_setTopic) ∈ lw_good := t_of (i := 943) (by decide +kernel) (by decide +kernel)
theorem t_944 : (Cond.code yX6_setTopic cX6_setTopic 5 (some FieldType.int)) ∈ lw_good := t_of (i := 944) (by decide +kernel) (by decide +kernel)
theorem t_946 : (Cond.methodLink RX6 167 yX6_requireOpenOrHeld) ∈ lw_good := t_of (i := 946) (by decide +kernel) (by decide +kernel)
theorem t_947 : (Cond.static yX6_requireOpenOrHeld) ∈ lw_good := t_of (i := 947) (by decide +kernel) (by decide +kernel)
theorem t_948 : (Cond.code yX6_requireOpenOrHeld cX6_requireOpenOrHeld 1 none) ∈ lw_good := t_of (i := 948) (by decide +kernel) (by decide +kernel)
theorem t_949 : (Cond.methodLink RX6 191 yX4_isOpenOrHeld) ∈ lw_good := t_of (i := 949) (by decide +kernel) (by decide +kernel)
theorem t_950 : (Cond.instanceMethod yX4_isOpenOrHeld) ∈ lw_good := t_of (i := 950) (by decide +kernel) (by decide +kernel)
theorem t_951 : (Cond.selects RX4 yX4_isOpenOrHeld yX4_isOpenOrHeld) ∈ lw_good := t_of (i := 951) (by decide +kernel) (by decide +kernel)
theorem t_952 : (Cond.code yX4_isOpenOrHeld cX4_isOpenOrHeld 1 (some FieldType.boolean)) ∈ lw_good := t_of (i := 952) (by decide +kernel) (by decide +kernel)
theorem t_954 : (Cond.methodLink RX6 177 yX0_hasSkill) ∈ lw_good := t_of (i := 954) (by decide +kernel) (by decide +kernel)
theorem t_955 : (Cond.methodLink RX6 182 yX4_leaveAgent) ∈ lw_good := t_of (i := 955) (by decide +kernel) (by decide +kernel)
theorem t_956 : (Cond.instanceMethod yX4_leaveAgent) ∈ lw_good := t_of (i := 956) (by decide +kernel) (by decide +kernel)
theorem t_957 : (Cond.selects RX4 yX4_leaveAgent yX4_leaveAgent) ∈ lw_good := t_of (i := 957) (by decide +kernel) (by decide +kernel)
theorem t_958 : (Cond.code yX4_leaveAgent cX4_leaveAgent 1 none) ∈ lw_good := t_of (i := 958) (by decide +kernel) (by decide +kernel)
theorem t_959 : (Cond.methodLink RL 189 yL_clock) ∈ lw_good := t_of (i := 959) (by decide +kernel) (by decide +kernel)
theorem t_960 : (Cond.static yL_clock) ∈ lw_good := t_of (i := 960) (by decide +kernel) (by decide +kernel)
theorem t_961 : (Cond.codeWith yL_clock cL_clock 4 (some FieldType.int) [(0, 9, 12, 36), (0, 9, 15, 28)]) ∈ lw_good := t_of (i := 961) (by decide +kernel) (by decide +kernel)
theorem t_962 : (Cond.methodLink RL 51 yX6_clock) ∈ lw_good := t_of (i := 962) (by decide +kernel) (by decide +kernel)
theorem t_963 : (Cond.instanceMethod yX6_clock) ∈ lw_good := t_of (i := 963) (by decide +kernel) (by decide +kernel)
theorem t_964 : (Cond.selects RX6 yX6_clock yX6_clock) ∈ lw_good := t_of (i := 964) (by decide +kernel) (by decide +kernel)
theorem t_965 : (Cond.code yX6_clock cX6_clock 3 (some FieldType.int)) ∈ lw_good := t_of (i := 965) (by decide +kernel) (by decide +kernel)
theorem t_966 : (Cond.methodLink RL 192 yL_leftOf) ∈ lw_good := t_of (i := 966) (by decide +kernel) (by decide +kernel)
theorem t_967 : (Cond.static yL_leftOf) ∈ lw_good := t_of (i := 967) (by decide +kernel) (by decide +kernel)
theorem t_968 : (Cond.codeWith yL_leftOf cL_leftOf 4 (some FieldType.int) [(0, 9, 12, 36), (0, 9, 15, 28)]) ∈ lw_good := t_of (i := 968) (by decide +kernel) (by decide +kernel)
theorem t_969 : (Cond.methodLink RL 54 yX6_leftOf) ∈ lw_good := t_of (i := 969) (by decide +kernel) (by decide +kernel)
theorem t_970 : (Cond.instanceMethod yX6_leftOf) ∈ lw_good := t_of (i := 970) (by decide +kernel) (by decide +kernel)
theorem t_971 : (Cond.selects RX6 yX6_leftOf yX6_leftOf) ∈ lw_good := t_of (i := 971) (by decide +kernel) (by decide +kernel)
theorem t_972 : (Cond.code yX6_leftOf cX6_leftOf 3 (some FieldType.int)) ∈ lw_good := t_of (i := 972) (by decide +kernel) (by decide +kernel)
theorem t_973 : (Cond.methodLink RX6 188 yX4_minutesLeft) ∈ lw_good := t_of (i := 973) (by decide +kernel) (by decide +kernel)
theorem t_974 : (Cond.methodLink RL 195 yL_isBreached) ∈ lw_good := t_of (i := 974) (by decide +kernel) (by decide +kernel)
theorem t_975 : (Cond.static yL_isBreached) ∈ lw_good := t_of (i := 975) (by decide +kernel) (by decide +kernel)
theorem t_976 : (Cond.codeWith yL_isBreached cL_isBreached 4 (some FieldType.int) [(0, 16, 19, 36)]) ∈ lw_good := t_of (i := 976) (by decide +kernel) (by decide +kernel)
theorem t_977 : (Cond.methodLink RL 57 yX6_isBreached) ∈ lw_good := t_of (i := 977) (by decide +kernel) (by decide +kernel)
theorem t_978 : (Cond.instanceMethod yX6_isBreached) ∈ lw_good := t_of (i := 978) (by decide +kernel) (by decide +kernel)
theorem t_979 : (Cond.selects RX6 yX6_isBreached yX6_isBreached) ∈ lw_good := t_of (i := 979) (by decide +kernel) (by decide +kernel)
theorem t_980 : (Cond.code yX6_isBreached cX6_isBreached 3 (some FieldType.boolean)) ∈ lw_good := t_of (i := 980) (by decide +kernel) (by decide +kernel)
theorem t_981 : (Cond.methodLink RL 198 yL_addAgent) ∈ lw_good := t_of (i := 981) (by decide +kernel) (by decide +kernel)
theorem t_982 : (Cond.static yL_addAgent) ∈ lw_good := t_of (i := 982) (by decide +kernel) (by decide +kernel)
theorem t_983 : (Cond.codeWith yL_addAgent cL_addAgent 4 (some FieldType.int) [(0, 9, 12, 13), (0, 9, 15, 28)]) ∈ lw_good := t_of (i := 983) (by decide +kernel) (by decide +kernel)
theorem t_984 : (Cond.methodLink RL 61 yX6_addAgent) ∈ lw_good := t_of (i := 984) (by decide +kernel) (by decide +kernel)
theorem t_985 : (Cond.instanceMethod yX6_addAgent) ∈ lw_good := t_of (i := 985) (by decide +kernel) (by decide +kernel)
theorem t_986 : (Cond.selects RX6 yX6_addAgent yX6_addAgent) ∈ lw_good := t_of (i := 986) (by decide +kernel) (by decide +kernel)
theorem t_987 : (Cond.code yX6_addAgent cX6_addAgent 2 (some FieldType.int)) ∈ lw_good := t_of (i := 987) (by decide +kernel) (by decide +kernel)
theorem t_990 : (Cond.instantiable RX0 4) ∈ lw_good := t_of (i := 990) (by decide +kernel) (by decide +kernel)
theorem t_991 : (Cond.methodLink RX6 203 yX0_init) ∈ lw_good := t_of (i := 991) (by decide +kernel) (by decide +kernel)
theorem t_992 : (Cond.instanceMethod yX0_init) ∈ lw_good := t_of (i := 992) (by decide +kernel) (by decide +kernel)
theorem t_993 : (Cond.code yX0_init cX0_init 3 none) ∈ lw_good := t_of (i := 993) (by decide +kernel) (by decide +kernel)
theorem t_994 : (Cond.methodLink RX0 1 ⟨"java/lang/Object", "<init>", "()V"⟩) ∈ lw_good := t_of (i := 994) (by decide +kernel) (by decide +kernel)
theorem t_995 : (Cond.fieldLink RX0 7 "TicketWeaver$Agent" "number" "I") ∈ lw_good := t_of (i := 995) (by decide +kernel) (by decide +kernel)
theorem t_997 : (Cond.fieldLink RX0 13 "TicketWeaver$Agent" "skills" "I") ∈ lw_good := t_of (i := 997) (by decide +kernel) (by decide +kernel)
theorem t_999 : (Cond.fieldLink RX0 16 "TicketWeaver$Agent" "isOnShift" "Z") ∈ lw_good := t_of (i := 999) (by decide +kernel) (by decide +kernel)
theorem t_1012 : (Cond.methodLink RL 201 yL_learn) ∈ lw_good := t_of (i := 1012) (by decide +kernel) (by decide +kernel)
theorem t_1013 : (Cond.static yL_learn) ∈ lw_good := t_of (i := 1013) (by decide +kernel) (by decide +kernel)
theorem t_1014 : (Cond.codeWith yL_learn cL_learn 5 (some FieldType.int) [(0, 10, 13, 36), (0, 10, 17, 13), (0, 10, 21, 67)]) ∈ lw_good := t_of (i := 1014) (by decide +kernel) (by decide +kernel)
theorem t_1015 : (Cond.classLink RL 67 "java/lang/UnsupportedOperationException") ∈ lw_good := t_of (i := 1015) (by decide +kernel) (by decide +kernel)
theorem t_1016 : (Cond.methodLink RL 64 yX6_learn) ∈ lw_good := t_of (i := 1016) (by decide +kernel) (by decide +kernel)
theorem t_1017 : (Cond.instanceMethod yX6_learn) ∈ lw_good := t_of (i := 1017) (by decide +kernel) (by decide +kernel)
theorem t_1018 : (Cond.selects RX6 yX6_learn yX6_learn) ∈ lw_good := t_of (i := 1018) (by decide +kernel) (by decide +kernel)
theorem t_1019 : (Cond.code yX6_learn cX6_learn 4 (some FieldType.int)) ∈ lw_good := t_of (i := 1019) (by decide +kernel) (by decide +kernel)
theorem t_1020 : (Cond.methodLink RX6 206 yX6_agentNumbered) ∈ lw_good := t_of (i := 1020) (by decide +kernel) (by decide +kernel)
theorem t_1022 : (Cond.instanceMethod yX6_agentNumbered) ∈ lw_good := t_of (i := 1022) (by decide +kernel) (by decide +kernel)
theorem t_1023 : (Cond.code yX6_agentNumbered cX6_agentNumbered 2 (Option.some (FieldType.object "TicketWeaver$Agent"))) ∈ lw_good := t_of (i := 1023) (by decide +kernel) (by decide +kernel)
theorem t_1025 : (Cond.classLink RX6 210 "java/lang/UnsupportedOperationException") ∈ lw_good := t_of (i := 1025) (by decide +kernel) (by decide +kernel)
theorem t_1026 : (Cond.instantiable "java/lang/UnsupportedOperationException" 6) ∈ lw_good := t_of (i := 1026) (by decide +kernel) (by decide +kernel)
theorem t_1035 : (Cond.methodLink RX6 214 ⟨"java/lang/UnsupportedOperationException", "<init>", "(Ljava/lang/String;)V"⟩) ∈ lw_good := t_of (i := 1035) (by decide +kernel) (by decide +kernel)
theorem t_1041 : (Cond.methodLink RX6 218 yJ6_bitCount_0f7a4) ∈ lw_good := t_of (i := 1041) (by decide +kernel) (by decide +kernel)
theorem t_1042 : (Cond.static yJ6_bitCount_0f7a4) ∈ lw_good := t_of (i := 1042) (by decide +kernel) (by decide +kernel)
theorem t_1043 : (Cond.code yJ6_bitCount_0f7a4 cJ6_bitCount_0f7a4 1 (some FieldType.int)) ∈ lw_good := t_of (i := 1043) (by decide +kernel) (by decide +kernel)
theorem t_1044 : (Cond.constant RJ6 265 (1431655765 : Int32)) ∈ lw_good := t_of (i := 1044) (by decide +kernel) (by decide +kernel)
theorem t_1045 : (Cond.constant RJ6 266 (858993459 : Int32)) ∈ lw_good := t_of (i := 1045) (by decide +kernel) (by decide +kernel)
theorem t_1046 : (Cond.constant RJ6 267 (252645135 : Int32)) ∈ lw_good := t_of (i := 1046) (by decide +kernel) (by decide +kernel)
theorem t_1047 : (Cond.methodLink RL 204 yL_setOnShift) ∈ lw_good := t_of (i := 1047) (by decide +kernel) (by decide +kernel)
theorem t_1048 : (Cond.static yL_setOnShift) ∈ lw_good := t_of (i := 1048) (by decide +kernel) (by decide +kernel)
theorem t_1049 : (Cond.codeWith yL_setOnShift cL_setOnShift 5 (some FieldType.int) [(0, 17, 20, 36)]) ∈ lw_good := t_of (i := 1049) (by decide +kernel) (by decide +kernel)
theorem t_1050 : (Cond.methodLink RL 69 yX6_setOnShift) ∈ lw_good := t_of (i := 1050) (by decide +kernel) (by decide +kernel)
theorem t_1051 : (Cond.instanceMethod yX6_setOnShift) ∈ lw_good := t_of (i := 1051) (by decide +kernel) (by decide +kernel)
theorem t_1052 : (Cond.selects RX6 yX6_setOnShift yX6_setOnShift) ∈ lw_good := t_of (i := 1052) (by decide +kernel) (by decide +kernel)
theorem t_1053 : (Cond.code yX6_setOnShift cX6_setOnShift 5 (some FieldType.boolean)) ∈ lw_good := t_of (i := 1053) (by decide +kernel) (by decide +kernel)
theorem t_1054 : (Cond.methodLink RX6 227 yX6_giveAllBack) ∈ lw_good := t_of (i := 1054) (by decide +kernel) (by decide +kernel)
theorem t_1056 : (Cond.instanceMethod yX6_giveAllBack) ∈ lw_good := t_of (i := 1056) (by decide +kernel) (by decide +kernel)
theorem t_1057 : (Cond.code yX6_giveAllBack cX6_giveAllBack 4 none) ∈ lw_good := t_of (i := 1057) (by decide +kernel) (by decide +kernel)
theorem t_1058 : (Cond.methodLink RL 208 yL_held) ∈ lw_good := t_of (i := 1058) (by decide +kernel) (by decide +kernel)
theorem t_1059 : (Cond.static yL_held) ∈ lw_good := t_of (i := 1059) (by decide +kernel) (by decide +kernel)
theorem t_1060 : (Cond.codeWith yL_held cL_held 4 (some FieldType.int) [(0, 9, 12, 36)]) ∈ lw_good := t_of (i := 1060) (by decide +kernel) (by decide +kernel)
theorem t_1061 : (Cond.methodLink RL 73 yX6_held) ∈ lw_good := t_of (i := 1061) (by decide +kernel) (by decide +kernel)
theorem t_1062 : (Cond.instanceMethod yX6_held) ∈ lw_good := t_of (i := 1062) (by decide +kernel) (by decide +kernel)
theorem t_1063 : (Cond.selects RX6 yX6_held yX6_held) ∈ lw_good := t_of (i := 1063) (by decide +kernel) (by decide +kernel)
theorem t_1064 : (Cond.code yX6_held cX6_held 2 (some FieldType.int)) ∈ lw_good := t_of (i := 1064) (by decide +kernel) (by decide +kernel)
theorem t_1065 : (Cond.methodLink RL 211 yL_agentOf) ∈ lw_good := t_of (i := 1065) (by decide +kernel) (by decide +kernel)
theorem t_1066 : (Cond.static yL_agentOf) ∈ lw_good := t_of (i := 1066) (by decide +kernel) (by decide +kernel)
theorem t_1067 : (Cond.codeWith yL_agentOf cL_agentOf 4 (some FieldType.int) [(0, 9, 12, 36), (0, 9, 15, 26)]) ∈ lw_good := t_of (i := 1067) (by decide +kernel) (by decide +kernel)
theorem t_1068 : (Cond.methodLink RL 76 yX6_agentOf) ∈ lw_good := t_of (i := 1068) (by decide +kernel) (by decide +kernel)
theorem t_1069 : (Cond.instanceMethod yX6_agentOf) ∈ lw_good := t_of (i := 1069) (by decide +kernel) (by decide +kernel)
theorem t_1070 : (Cond.selects RX6 yX6_agentOf yX6_agentOf) ∈ lw_good := t_of (i := 1070) (by decide +kernel) (by decide +kernel)
theorem t_1071 : (Cond.code yX6_agentOf cX6_agentOf 3 (some FieldType.int)) ∈ lw_good := t_of (i := 1071) (by decide +kernel) (by decide +kernel)
theorem t_1073 : (Cond.methodLink RL 214 yL_nextFor) ∈ lw_good := t_of (i := 1073) (by decide +kernel) (by decide +kernel)
theorem t_1074 : (Cond.static yL_nextFor) ∈ lw_good := t_of (i := 1074) (by decide +kernel) (by decide +kernel)
theorem t_1075 : (Cond.codeWith yL_nextFor cL_nextFor 4 (some FieldType.int) [(0, 9, 12, 36), (0, 9, 15, 26)]) ∈ lw_good := t_of (i := 1075) (by decide +kernel) (by decide +kernel)
theorem t_1076 : (Cond.methodLink RL 79 yX6_nextFor) ∈ lw_good := t_of (i := 1076) (by decide +kernel) (by decide +kernel)
theorem t_1077 : (Cond.instanceMethod yX6_nextFor) ∈ lw_good := t_of (i := 1077) (by decide +kernel) (by decide +kernel)
theorem t_1078 : (Cond.selects RX6 yX6_nextFor yX6_nextFor) ∈ lw_good := t_of (i := 1078) (by decide +kernel) (by decide +kernel)
theorem t_1079 : (Cond.code yX6_nextFor cX6_nextFor 3 (some FieldType.int)) ∈ lw_good := t_of (i := 1079) (by decide +kernel) (by decide +kernel)
theorem t_1081 : (Cond.methodLink RL 217 yL_nextByTickets) ∈ lw_good := t_of (i := 1081) (by decide +kernel) (by decide +kernel)
theorem t_1082 : (Cond.static yL_nextByTickets) ∈ lw_good := t_of (i := 1082) (by decide +kernel) (by decide +kernel)
theorem t_1083 : (Cond.codeWith yL_nextByTickets cL_nextByTickets 4 (some FieldType.int) [(0, 9, 12, 36), (0, 9, 15, 26)]) ∈ lw_good := t_of (i := 1083) (by decide +kernel) (by decide +kernel)
theorem t_1084 : (Cond.methodLink RL 82 yX6_nextByTickets) ∈ lw_good := t_of (i := 1084) (by decide +kernel) (by decide +kernel)
theorem t_1085 : (Cond.instanceMethod yX6_nextByTickets) ∈ lw_good := t_of (i := 1085) (by decide +kernel) (by decide +kernel)
theorem t_1086 : (Cond.selects RX6 yX6_nextByTickets yX6_nextByTickets) ∈ lw_good := t_of (i := 1086) (by decide +kernel) (by decide +kernel)
theorem t_1087 : (Cond.code yX6_nextByTickets cX6_nextByTickets 3 (some FieldType.int)) ∈ lw_good := t_of (i := 1087) (by decide +kernel) (by decide +kernel)
theorem t_1088 : (Cond.methodLink RL 220 yL_waiting) ∈ lw_good := t_of (i := 1088) (by decide +kernel) (by decide +kernel)
theorem t_1089 : (Cond.static yL_waiting) ∈ lw_good := t_of (i := 1089) (by decide +kernel) (by decide +kernel)
theorem t_1090 : (Cond.codeWith yL_waiting cL_waiting 4 (some FieldType.int) [(0, 9, 12, 36)]) ∈ lw_good := t_of (i := 1090) (by decide +kernel) (by decide +kernel)
theorem t_1091 : (Cond.methodLink RL 85 yX6_waiting) ∈ lw_good := t_of (i := 1091) (by decide +kernel) (by decide +kernel)
theorem t_1092 : (Cond.instanceMethod yX6_waiting) ∈ lw_good := t_of (i := 1092) (by decide +kernel) (by decide +kernel)
theorem t_1093 : (Cond.selects RX6 yX6_waiting yX6_waiting) ∈ lw_good := t_of (i := 1093) (by decide +kernel) (by decide +kernel)
theorem t_1094 : (Cond.code yX6_waiting cX6_waiting 5 (some FieldType.int)) ∈ lw_good := t_of (i := 1094) (by decide +kernel) (by decide +kernel)
theorem t_1095 : (Cond.methodLink RX6 249 yX5_length) ∈ lw_good := t_of (i := 1095) (by decide +kernel) (by decide +kernel)
theorem t_1096 : (Cond.instanceMethod yX5_length) ∈ lw_good := t_of (i := 1096) (by decide +kernel) (by decide +kernel)
theorem t_1097 : (Cond.selects RX5 yX5_length yX5_length) ∈ lw_good := t_of (i := 1097) (by decide +kernel) (by decide +kernel)
theorem t_1098 : (Cond.code yX5_length cX5_length 1 (some FieldType.int)) ∈ lw_good := t_of (i := 1098) (by decide +kernel) (by decide +kernel)
theorem t_1099 : (Cond.methodLink RL 223 yL_take) ∈ lw_good := t_of (i := 1099) (by decide +kernel) (by decide +kernel)
theorem t_1100 : (Cond.static yL_take) ∈ lw_good := t_of (i := 1100) (by decide +kernel) (by decide +kernel)
theorem t_1101 : (Cond.codeWith yL_take cL_take 4 (some FieldType.int) [(0, 9, 12, 36), (0, 9, 15, 28), (0, 9, 18, 26)]) ∈ lw_good := t_of (i := 1101) (by decide +kernel) (by decide +kernel)
theorem t_1102 : (Cond.methodLink RL 88 yX6_take) ∈ lw_good := t_of (i := 1102) (by decide +kernel) (by decide +kernel)
theorem t_1103 : (Cond.instanceMethod yX6_take) ∈ lw_good := t_of (i := 1103) (by decide +kernel) (by decide +kernel)
theorem t_1104 : (Cond.selects RX6 yX6_take yX6_take) ∈ lw_good := t_of (i := 1104) (by decide +kernel) (by decide +kernel)
theorem t_1105 : (Cond.code yX6_take cX6_take 4 (some FieldType.int)) ∈ lw_good := t_of (i := 1105) (by decide +kernel) (by decide +kernel)
theorem t_1107 : (Cond.methodLink RX6 254 yX4_joinAgent) ∈ lw_good := t_of (i := 1107) (by decide +kernel) (by decide +kernel)
theorem t_1108 : (Cond.instanceMethod yX4_joinAgent) ∈ lw_good := t_of (i := 1108) (by decide +kernel) (by decide +kernel)
theorem t_1109 : (Cond.selects RX4 yX4_joinAgent yX4_joinAgent) ∈ lw_good := t_of (i := 1109) (by decide +kernel) (by decide +kernel)
theorem t_1110 : (Cond.code yX4_joinAgent cX4_joinAgent 2 none) ∈ lw_good := t_of (i := 1110) (by decide +kernel) (by decide +kernel)
theorem t_1111 : (Cond.methodLink RL 226 yL_handOver) ∈ lw_good := t_of (i := 1111) (by decide +kernel) (by decide +kernel)
theorem t_1112 : (Cond.static yL_handOver) ∈ lw_good := t_of (i := 1112) (by decide +kernel) (by decide +kernel)
theorem t_1113 : (Cond.codeWith yL_handOver cL_handOver 5 (some FieldType.int) [(0, 10, 13, 36), (0, 10, 17, 28), (0, 10, 21, 67)]) ∈ lw_good := t_of (i := 1113) (by decide +kernel) (by decide +kernel)
theorem t_1114 : (Cond.methodLink RL 91 yX6_handOver) ∈ lw_good := t_of (i := 1114) (by decide +kernel) (by decide +kernel)
theorem t_1115 : (Cond.instanceMethod yX6_handOver) ∈ lw_good := t_of (i := 1115) (by decide +kernel) (by decide +kernel)
theorem t_1116 : (Cond.selects RX6 yX6_handOver yX6_handOver) ∈ lw_good := t_of (i := 1116) (by decide +kernel) (by decide +kernel)
theorem t_1117 : (Cond.code yX6_handOver cX6_handOver 5 (some FieldType.int)) ∈ lw_good := t_of (i := 1117) (by decide +kernel) (by decide +kernel)
theorem t_1120 : (Cond.methodLink RL 229 yL_giveBack) ∈ lw_good := t_of (i := 1120) (by decide +kernel) (by decide +kernel)
theorem t_1121 : (Cond.static yL_giveBack) ∈ lw_good := t_of (i := 1121) (by decide +kernel) (by decide +kernel)
theorem t_1122 : (Cond.codeWith yL_giveBack cL_giveBack 4 (some FieldType.int) [(0, 9, 12, 36), (0, 9, 15, 28)]) ∈ lw_good := t_of (i := 1122) (by decide +kernel) (by decide +kernel)
theorem t_1123 : (Cond.methodLink RL 94 yX6_giveBack) ∈ lw_good := t_of (i := 1123) (by decide +kernel) (by decide +kernel)
theorem t_1124 : (Cond.instanceMethod yX6_giveBack) ∈ lw_good := t_of (i := 1124) (by decide +kernel) (by decide +kernel)
theorem t_1125 : (Cond.selects RX6 yX6_giveBack yX6_giveBack) ∈ lw_good := t_of (i := 1125) (by decide +kernel) (by decide +kernel)
theorem t_1126 : (Cond.code yX6_giveBack cX6_giveBack 4 (some FieldType.int)) ∈ lw_good := t_of (i := 1126) (by decide +kernel) (by decide +kernel)
theorem t_1127 : (Cond.methodLink RL 232 yL_hold) ∈ lw_good := t_of (i := 1127) (by decide +kernel) (by decide +kernel)
theorem t_1128 : (Cond.static yL_hold) ∈ lw_good := t_of (i := 1128) (by decide +kernel) (by decide +kernel)
theorem t_1129 : (Cond.codeWith yL_hold cL_hold 4 (some FieldType.int) [(0, 9, 12, 36), (0, 9, 15, 28)]) ∈ lw_good := t_of (i := 1129) (by decide +kernel) (by decide +kernel)
theorem t_1130 : (Cond.methodLink RL 97 yX6_hold) ∈ lw_good := t_of (i := 1130) (by decide +kernel) (by decide +kernel)
theorem t_1131 : (Cond.instanceMethod yX6_hold) ∈ lw_good := t_of (i := 1131) (by decide +kernel) (by decide +kernel)
theorem t_1132 : (Cond.selects RX6 yX6_hold yX6_hold) ∈ lw_good := t_of (i := 1132) (by decide +kernel) (by decide +kernel)
theorem t_1133 : (Cond.code yX6_hold cX6_hold 3 (some FieldType.int)) ∈ lw_good := t_of (i := 1133) (by decide +kernel) (by decide +kernel)
theorem t_1135 : (Cond.methodLink RL 235 yL_resume) ∈ lw_good := t_of (i := 1135) (by decide +kernel) (by decide +kernel)
theorem t_1136 : (Cond.static yL_resume) ∈ lw_good := t_of (i := 1136) (by decide +kernel) (by decide +kernel)
theorem t_1137 : (Cond.codeWith yL_resume cL_resume 4 (some FieldType.int) [(0, 9, 12, 36), (0, 9, 15, 28)]) ∈ lw_good := t_of (i := 1137) (by decide +kernel) (by decide +kernel)
theorem t_1138 : (Cond.methodLink RL 100 yX6_resume) ∈ lw_good := t_of (i := 1138) (by decide +kernel) (by decide +kernel)
theorem t_1139 : (Cond.instanceMethod yX6_resume) ∈ lw_good := t_of (i := 1139) (by decide +kernel) (by decide +kernel)
theorem t_1140 : (Cond.selects RX6 yX6_resume yX6_resume) ∈ lw_good := t_of (i := 1140) (by decide +kernel) (by decide +kernel)
theorem t_1141 : (Cond.code yX6_resume cX6_resume 3 (some FieldType.int)) ∈ lw_good := t_of (i := 1141) (by decide +kernel) (by decide +kernel)
theorem t_1143 : (Cond.methodLink RL 238 yL_answer) ∈ lw_good := t_of (i := 1143) (by decide +kernel) (by decide +kernel)
theorem t_1144 : (Cond.static yL_answer) ∈ lw_good := t_of (i := 1144) (by decide +kernel) (by decide +kernel)
theorem t_1145 : (Cond.codeWith yL_answer cL_answer 5 (some FieldType.int) [(0, 10, 13, 36), (0, 10, 17, 28), (0, 10, 21, 26)]) ∈ lw_good := t_of (i := 1145) (by decide +kernel) (by decide +kernel)
theorem t_1146 : (Cond.methodLink RL 103 yX6_answer) ∈ lw_good := t_of (i := 1146) (by decide +kernel) (by decide +kernel)
theorem t_1147 : (Cond.instanceMethod yX6_answer) ∈ lw_good := t_of (i := 1147) (by decide +kernel) (by decide +kernel)
theorem t_1148 : (Cond.selects RX6 yX6_answer yX6_answer) ∈ lw_good := t_of (i := 1148) (by decide +kernel) (by decide +kernel)
theorem t_1149 : (Cond.code yX6_answer cX6_answer 4 (some FieldType.int)) ∈ lw_good := t_of (i := 1149) (by decide +kernel) (by decide +kernel)
theorem t_1151 : (Cond.methodLink RX6 270 yX6_isAnswer) ∈ lw_good := t_of (i := 1151) (by decide +kernel) (by decide +kernel)
theorem t_1153 : (Cond.instanceMethod yX6_isAnswer) ∈ lw_good := t_of (i := 1153) (by decide +kernel) (by decide +kernel)
theorem t_1154 : (Cond.code yX6_isAnswer cX6_isAnswer 2 (some FieldType.boolean)) ∈ lw_good := t_of (i := 1154) (by decide +kernel) (by decide +kernel)
theorem t_1156 : (Cond.classLink RX6 275 "TicketWeaver$Prepared") ∈ lw_good := t_of (i := 1156) (by decide +kernel) (by decide +kernel)
theorem t_1157 : (Cond.methodLink RX6 281 yX6_countAnswer) ∈ lw_good := t_of (i := 1157) (by decide +kernel) (by decide +kernel)
theorem t_1159 : (Cond.instanceMethod yX6_countAnswer) ∈ lw_good := t_of (i := 1159) (by decide +kernel) (by decide +kernel)
theorem t_1160 : (Cond.code yX6_countAnswer cX6_countAnswer 2 none) ∈ lw_good := t_of (i := 1160) (by decide +kernel) (by decide +kernel)
theorem t_1161 : (Cond.methodLink RL 241 yL_close) ∈ lw_good := t_of (i := 1161) (by decide +kernel) (by decide +kernel)
theorem t_1162 : (Cond.static yL_close) ∈ lw_good := t_of (i := 1162) (by decide +kernel) (by decide +kernel)
theorem t_1163 : (Cond.codeWith yL_close cL_close 4 (some FieldType.int) [(0, 9, 12, 36), (0, 9, 15, 28)]) ∈ lw_good := t_of (i := 1163) (by decide +kernel) (by decide +kernel)
theorem t_1164 : (Cond.methodLink RL 106 yX6_close) ∈ lw_good := t_of (i := 1164) (by decide +kernel) (by decide +kernel)
theorem t_1165 : (Cond.instanceMethod yX6_close) ∈ lw_good := t_of (i := 1165) (by decide +kernel) (by decide +kernel)
theorem t_1166 : (Cond.selects RX6 yX6_close yX6_close) ∈ lw_good := t_of (i := 1166) (by decide +kernel) (by decide +kernel)
theorem t_1167 : (Cond.code yX6_close cX6_close 3 (some FieldType.int)) ∈ lw_good := t_of (i := 1167) (by decide +kernel) (by decide +kernel)
theorem t_1169 : (Cond.methodLink RX6 286 yX3_gainWeight) ∈ lw_good := t_of (i := 1169) (by decide +kernel) (by decide +kernel)
theorem t_1170 : (Cond.instanceMethod yX3_gainWeight) ∈ lw_good := t_of (i := 1170) (by decide +kernel) (by decide +kernel)
theorem t_1171 : (Cond.selects RX3 yX3_gainWeight yX3_gainWeight) ∈ lw_good := t_of (i := 1171) (by decide +kernel) (by decide +kernel)
theorem t_1172 : (Cond.code yX3_gainWeight cX3_gainWeight 2 none) ∈ lw_good := t_of (i := 1172) (by decide +kernel) (by decide +kernel)
theorem t_1173 : (Cond.methodLink RX3 19 yJ9_min_7cf53) ∈ lw_good := t_of (i := 1173) (by decide +kernel) (by decide +kernel)
theorem t_1174 : (Cond.methodLink RX6 293 yX6_closedTickets) ∈ lw_good := t_of (i := 1174) (by decide +kernel) (by decide +kernel)
theorem t_1176 : (Cond.instanceMethod yX6_closedTickets) ∈ lw_good := t_of (i := 1176) (by decide +kernel) (by decide +kernel)
theorem t_1177 : (Cond.code yX6_closedTickets cX6_closedTickets 3 (some FieldType.int)) ∈ lw_good := t_of (i := 1177) (by decide +kernel) (by decide +kernel)
theorem t_1178 : (Cond.methodLink RL 244 yL_merge) ∈ lw_good := t_of (i := 1178) (by decide +kernel) (by decide +kernel)
theorem t_1179 : (Cond.static yL_merge) ∈ lw_good := t_of (i := 1179) (by decide +kernel) (by decide +kernel)
theorem t_1180 : (Cond.codeWith yL_merge cL_merge 5 (some FieldType.int) [(0, 10, 13, 36), (0, 10, 17, 13), (0, 10, 21, 28), (0, 10, 25, 67)]) ∈ lw_good := t_of (i := 1180) (by decide +kernel) (by decide +kernel)
theorem t_1181 : (Cond.methodLink RL 109 yX6_merge) ∈ lw_good := t_of (i := 1181) (by decide +kernel) (by decide +kernel)
theorem t_1182 : (Cond.instanceMethod yX6_merge) ∈ lw_good := t_of (i := 1182) (by decide +kernel) (by decide +kernel)
theorem t_1183 : (Cond.selects RX6 yX6_merge yX6_merge) ∈ lw_good := t_of (i := 1183) (by decide +kernel) (by decide +kernel)
theorem t_1184 : (Cond.code yX6_merge cX6_merge 5 (some FieldType.int)) ∈ lw_good := t_of (i := 1184) (by decide +kernel) (by decide +kernel)
theorem t_1187 : (Cond.methodLink RX6 304 yX4_takeOver) ∈ lw_good := t_of (i := 1187) (by decide +kernel) (by decide +kernel)
theorem t_1188 : (Cond.instanceMethod yX4_takeOver) ∈ lw_good := t_of (i := 1188) (by decide +kernel) (by decide +kernel)
theorem t_1189 : (Cond.selects RX4 yX4_takeOver yX4_takeOver) ∈ lw_good := t_of (i := 1189) (by decide +kernel) (by decide +kernel)
theorem t_1190 : (Cond.code yX4_takeOver cX4_takeOver 3 none) ∈ lw_good := t_of (i := 1190) (by decide +kernel) (by decide +kernel)
theorem t_1191 : (Cond.methodLink RX4 100 yX4_insertMail) ∈ lw_good := t_of (i := 1191) (by decide +kernel) (by decide +kernel)
theorem t_1192 : (Cond.methodLink RX4 107 yJ9_max_7cf53) ∈ lw_good := t_of (i := 1192) (by decide +kernel) (by decide +kernel)
theorem t_1193 : (Cond.methodLink RX4 113 yJx4a65c_clear_da8c8) ∈ lw_good := t_of (i := 1193) (by decide +kernel) (by decide +kernel)
theorem t_1194 : (Cond.instanceMethod yJx4a65c_clear_da8c8) ∈ lw_good := t_of (i := 1194) (by decide +kernel) (by decide +kernel)
theorem t_1195 : (Cond.selects RJx4a65c yJx4a65c_clear_da8c8 yJx4a65c_clear_da8c8) ∈ lw_good := t_of (i := 1195) (by decide +kernel) (by decide +kernel)
theorem t_1196 : (Cond.code yJx4a65c_clear_da8c8 cJx4a65c_clear_da8c8 4 none) ∈ lw_good := t_of (i := 1196) (by decide +kernel) (by decide +kernel)
theorem t_1197 : (Cond.methodLink RL 247 yL_addAnswer) ∈ lw_good := t_of (i := 1197) (by decide +kernel) (by decide +kernel)
theorem t_1198 : (Cond.static yL_addAnswer) ∈ lw_good := t_of (i := 1198) (by decide +kernel) (by decide +kernel)
theorem t_1199 : (Cond.codeWith yL_addAnswer cL_addAnswer 4 (some FieldType.int) [(0, 9, 12, 13), (0, 9, 15, 28)]) ∈ lw_good := t_of (i := 1199) (by decide +kernel) (by decide +kernel)
theorem t_1200 : (Cond.methodLink RL 112 yX6_addAnswer) ∈ lw_good := t_of (i := 1200) (by decide +kernel) (by decide +kernel)
theorem t_1201 : (Cond.instanceMethod yX6_addAnswer) ∈ lw_good := t_of (i := 1201) (by decide +kernel) (by decide +kernel)
theorem t_1202 : (Cond.selects RX6 yX6_addAnswer yX6_addAnswer) ∈ lw_good := t_of (i := 1202) (by decide +kernel) (by decide +kernel)
theorem t_1203 : (Cond.code yX6_addAnswer cX6_addAnswer 4 (some FieldType.int)) ∈ lw_good := t_of (i := 1203) (by decide +kernel) (by decide +kernel)
theorem t_1206 : (Cond.instantiable RX3 2) ∈ lw_good := t_of (i := 1206) (by decide +kernel) (by decide +kernel)
theorem t_1207 : (Cond.methodLink RX6 311 yX3_init) ∈ lw_good := t_of (i := 1207) (by decide +kernel) (by decide +kernel)
theorem t_1208 : (Cond.instanceMethod yX3_init) ∈ lw_good := t_of (i := 1208) (by decide +kernel) (by decide +kernel)
theorem t_1209 : (Cond.code yX3_init cX3_init 2 none) ∈ lw_good := t_of (i := 1209) (by decide +kernel) (by decide +kernel)
theorem t_1210 : (Cond.methodLink RX3 3 ⟨"java/lang/Object", "<init>", "()V"⟩) ∈ lw_good := t_of (i := 1210) (by decide +kernel) (by decide +kernel)
theorem t_1211 : (Cond.fieldLink RX3 9 "TicketWeaver$Prepared" "words" "I") ∈ lw_good := t_of (i := 1211) (by decide +kernel) (by decide +kernel)
theorem t_1213 : (Cond.fieldLink RX3 15 "TicketWeaver$Prepared" "weights" "[I") ∈ lw_good := t_of (i := 1213) (by decide +kernel) (by decide +kernel)
theorem t_1220 : (Cond.methodLink RL 250 yL_weight) ∈ lw_good := t_of (i := 1220) (by decide +kernel) (by decide +kernel)
theorem t_1221 : (Cond.static yL_weight) ∈ lw_good := t_of (i := 1221) (by decide +kernel) (by decide +kernel)
theorem t_1222 : (Cond.codeWith yL_weight cL_weight 5 (some FieldType.int) [(0, 10, 13, 26), (0, 10, 17, 13)]) ∈ lw_good := t_of (i := 1222) (by decide +kernel) (by decide +kernel)
theorem t_1223 : (Cond.methodLink RL 115 yX6_weight) ∈ lw_good := t_of (i := 1223) (by decide +kernel) (by decide +kernel)
theorem t_1224 : (Cond.instanceMethod yX6_weight) ∈ lw_good := t_of (i := 1224) (by decide +kernel) (by decide +kernel)
theorem t_1225 : (Cond.selects RX6 yX6_weight yX6_weight) ∈ lw_good := t_of (i := 1225) (by decide +kernel) (by decide +kernel)
theorem t_1226 : (Cond.code yX6_weight cX6_weight 3 (some FieldType.int)) ∈ lw_good := t_of (i := 1226) (by decide +kernel) (by decide +kernel)
theorem t_1227 : (Cond.methodLink RL 253 yL_suggestion) ∈ lw_good := t_of (i := 1227) (by decide +kernel) (by decide +kernel)
theorem t_1228 : (Cond.static yL_suggestion) ∈ lw_good := t_of (i := 1228) (by decide +kernel) (by decide +kernel)
theorem t_1229 : (Cond.codeWith yL_suggestion cL_suggestion 4 (some FieldType.int) [(0, 9, 12, 36), (0, 9, 15, 26)]) ∈ lw_good := t_of (i := 1229) (by decide +kernel) (by decide +kernel)
theorem t_1230 : (Cond.methodLink RL 118 yX6_suggestion) ∈ lw_good := t_of (i := 1230) (by decide +kernel) (by decide +kernel)
theorem t_1231 : (Cond.instanceMethod yX6_suggestion) ∈ lw_good := t_of (i := 1231) (by decide +kernel) (by decide +kernel)
theorem t_1232 : (Cond.selects RX6 yX6_suggestion yX6_suggestion) ∈ lw_good := t_of (i := 1232) (by decide +kernel) (by decide +kernel)
theorem t_1233 : (Cond.code yX6_suggestion cX6_suggestion 3 (some FieldType.int)) ∈ lw_good := t_of (i := 1233) (by decide +kernel) (by decide +kernel)
theorem t_1234 : (Cond.methodLink RX6 316 yX6_bestFromAnswers) ∈ lw_good := t_of (i := 1234) (by decide +kernel) (by decide +kernel)
theorem t_1236 : (Cond.instanceMethod yX6_bestFromAnswers) ∈ lw_good := t_of (i := 1236) (by decide +kernel) (by decide +kernel)
theorem t_1237 : (Cond.code yX6_bestFromAnswers cX6_bestFromAnswers 8 (some FieldType.int)) ∈ lw_good := t_of (i := 1237) (by decide +kernel) (by decide +kernel)
theorem t_1239 : (Cond.methodLink RL 256 yL_suggestionByWords) ∈ lw_good := t_of (i := 1239) (by decide +kernel) (by decide +kernel)
theorem t_1240 : (Cond.static yL_suggestionByWords) ∈ lw_good := t_of (i := 1240) (by decide +kernel) (by decide +kernel)
theorem t_1241 : (Cond.codeWith yL_suggestionByWords cL_suggestionByWords 4 (some FieldType.int) [(0, 9, 12, 36), (0, 9, 15, 26)]) ∈ lw_good := t_of (i := 1241) (by decide +kernel) (by decide +kernel)
theorem t_1242 : (Cond.methodLink RL 121 yX6_suggestionByWords) ∈ lw_good := t_of (i := 1242) (by decide +kernel) (by decide +kernel)
theorem t_1243 : (Cond.instanceMethod yX6_suggestionByWords) ∈ lw_good := t_of (i := 1243) (by decide +kernel) (by decide +kernel)
theorem t_1244 : (Cond.selects RX6 yX6_suggestionByWords yX6_suggestionByWords) ∈ lw_good := t_of (i := 1244) (by decide +kernel) (by decide +kernel)
theorem t_1245 : (Cond.code yX6_suggestionByWords cX6_suggestionByWords 3 (some FieldType.int)) ∈ lw_good := t_of (i := 1245) (by decide +kernel) (by decide +kernel)
theorem t_1246 : (Cond.methodLink RX6 322 yX6_bestFromWords) ∈ lw_good := t_of (i := 1246) (by decide +kernel) (by decide +kernel)
theorem t_1248 : (Cond.instanceMethod yX6_bestFromWords) ∈ lw_good := t_of (i := 1248) (by decide +kernel) (by decide +kernel)
theorem t_1249 : (Cond.code yX6_bestFromWords cX6_bestFromWords 6 (some FieldType.int)) ∈ lw_good := t_of (i := 1249) (by decide +kernel) (by decide +kernel)
theorem t_1250 : (Cond.methodLink RX6 404 yX6_scoreWords) ∈ lw_good := t_of (i := 1250) (by decide +kernel) (by decide +kernel)
theorem t_1252 : (Cond.instanceMethod yX6_scoreWords) ∈ lw_good := t_of (i := 1252) (by decide +kernel) (by decide +kernel)
theorem t_1253 : (Cond.code yX6_scoreWords cX6_scoreWords 3 none) ∈ lw_good := t_of (i := 1253) (by decide +kernel) (by decide +kernel)
theorem t_1254 : (Cond.methodLink RX6 407 yJ7_fill_53178) ∈ lw_good := t_of (i := 1254) (by decide +kernel) (by decide +kernel)
theorem t_1255 : (Cond.static yJ7_fill_53178) ∈ lw_good := t_of (i := 1255) (by decide +kernel) (by decide +kernel)
theorem t_1256 : (Cond.code yJ7_fill_53178 cJ7_fill_53178 4 none) ∈ lw_good := t_of (i := 1256) (by decide +kernel) (by decide +kernel)
theorem t_1257 : (Cond.methodLink RX6 413 yX6_scoreWord) ∈ lw_good := t_of (i := 1257) (by decide +kernel) (by decide +kernel)
theorem t_1259 : (Cond.instanceMethod yX6_scoreWord) ∈ lw_good := t_of (i := 1259) (by decide +kernel) (by decide +kernel)
theorem t_1260 : (Cond.code yX6_scoreWord cX6_scoreWord 3 none) ∈ lw_good := t_of (i := 1260) (by decide +kernel) (by decide +kernel)
theorem t_1261 : (Cond.methodLink RL 272 yL_keptShare) ∈ lw_good := t_of (i := 1261) (by decide +kernel) (by decide +kernel)
theorem t_1262 : (Cond.static yL_keptShare) ∈ lw_good := t_of (i := 1262) (by decide +kernel) (by decide +kernel)
theorem t_1263 : (Cond.codeWith yL_keptShare cL_keptShare 3 (some FieldType.int) [(0, 8, 11, 128)]) ∈ lw_good := t_of (i := 1263) (by decide +kernel) (by decide +kernel)
theorem t_1264 : (Cond.classLink RL 128 "java/lang/ArithmeticException") ∈ lw_good := t_of (i := 1264) (by decide +kernel) (by decide +kernel)
theorem t_1265 : (Cond.instantiable "java/lang/ArithmeticException" 6) ∈ lw_good := t_of (i := 1265) (by decide +kernel) (by decide +kernel)
theorem t_1278 : (Cond.methodLink RL 124 yX6_keptShare) ∈ lw_good := t_of (i := 1278) (by decide +kernel) (by decide +kernel)
theorem t_1279 : (Cond.instanceMethod yX6_keptShare) ∈ lw_good := t_of (i := 1279) (by decide +kernel) (by decide +kernel)
theorem t_1280 : (Cond.selects RX6 yX6_keptShare yX6_keptShare) ∈ lw_good := t_of (i := 1280) (by decide +kernel) (by decide +kernel)
theorem t_1281 : (Cond.code yX6_keptShare cX6_keptShare 1 (some FieldType.float)) ∈ lw_good := t_of (i := 1281) (by decide +kernel) (by decide +kernel)
theorem t_1282 : (Cond.classLink RX6 328 "java/lang/ArithmeticException") ∈ lw_good := t_of (i := 1282) (by decide +kernel) (by decide +kernel)
theorem t_1284 : (Cond.methodLink RX6 332 ⟨"java/lang/ArithmeticException", "<init>", "(Ljava/lang/String;)V"⟩) ∈ lw_good := t_of (i := 1284) (by decide +kernel) (by decide +kernel)
theorem t_1285 : (Cond.methodLink RL 276 yL_meanClock) ∈ lw_good := t_of (i := 1285) (by decide +kernel) (by decide +kernel)
theorem t_1286 : (Cond.static yL_meanClock) ∈ lw_good := t_of (i := 1286) (by decide +kernel) (by decide +kernel)
theorem t_1287 : (Cond.codeWith yL_meanClock cL_meanClock 3 (some FieldType.int) [(0, 7, 10, 128)]) ∈ lw_good := t_of (i := 1287) (by decide +kernel) (by decide +kernel)
theorem t_1288 : (Cond.methodLink RL 130 yX6_meanClock) ∈ lw_good := t_of (i := 1288) (by decide +kernel) (by decide +kernel)
theorem t_1289 : (Cond.instanceMethod yX6_meanClock) ∈ lw_good := t_of (i := 1289) (by decide +kernel) (by decide +kernel)
theorem t_1290 : (Cond.selects RX6 yX6_meanClock yX6_meanClock) ∈ lw_good := t_of (i := 1290) (by decide +kernel) (by decide +kernel)
theorem t_1291 : (Cond.code yX6_meanClock cX6_meanClock 1 (some FieldType.double)) ∈ lw_good := t_of (i := 1291) (by decide +kernel) (by decide +kernel)
theorem t_1292 : (Cond.classLink RL 135 "TicketWeaverModel") ∈ lw_good := t_of (i := 1292) (by decide +kernel) (by decide +kernel)
theorem t_1293 : (Cond.instantiable RX7 30) ∈ lw_good := t_of (i := 1293) (by decide +kernel) (by decide +kernel)
theorem t_1294 : (Cond.methodLink RL 137 yX7_init) ∈ lw_good := t_of (i := 1294) (by decide +kernel) (by decide +kernel)
theorem t_1295 : (Cond.instanceMethod yX7_init) ∈ lw_good := t_of (i := 1295) (by decide +kernel) (by decide +kernel)
theorem t_1296 : (Cond.code yX7_init cX7_init 1 none) ∈ lw_good := t_of (i := 1296) (by decide +kernel) (by decide +kernel)
theorem t_1297 : (Cond.methodLink RX7 1 ⟨"java/lang/Object", "<init>", "()V"⟩) ∈ lw_good := t_of (i := 1297) (by decide +kernel) (by decide +kernel)
theorem t_1298 : (Cond.fieldLink RX7 7 "TicketWeaverModel" "levels" "[I") ∈ lw_good := t_of (i := 1298) (by decide +kernel) (by decide +kernel)
theorem t_1299 : (Cond.fieldLink RX7 13 "TicketWeaverModel" "promises" "[I") ∈ lw_good := t_of (i := 1299) (by decide +kernel) (by decide +kernel)
theorem t_1300 : (Cond.fieldLink RX7 16 "TicketWeaverModel" "ticketsOf" "[I") ∈ lw_good := t_of (i := 1300) (by decide +kernel) (by decide +kernel)
theorem t_1301 : (Cond.fieldLink RX7 19 "TicketWeaverModel" "words" "[I") ∈ lw_good := t_of (i := 1301) (by decide +kernel) (by decide +kernel)
theorem t_1302 : (Cond.fieldLink RX7 22 "TicketWeaverModel" "customers" "[I") ∈ lw_good := t_of (i := 1302) (by decide +kernel) (by decide +kernel)
theorem t_1303 : (Cond.fieldLink RX7 25 "TicketWeaverModel" "subjects" "[I") ∈ lw_good := t_of (i := 1303) (by decide +kernel) (by decide +kernel)
theorem t_1304 : (Cond.fieldLink RX7 28 "TicketWeaverModel" "topics" "[I") ∈ lw_good := t_of (i := 1304) (by decide +kernel) (by decide +kernel)
theorem t_1305 : (Cond.fieldLink RX7 31 "TicketWeaverModel" "clocks" "[I") ∈ lw_good := t_of (i := 1305) (by decide +kernel) (by decide +kernel)
theorem t_1306 : (Cond.fieldLink RX7 34 "TicketWeaverModel" "agents" "[I") ∈ lw_good := t_of (i := 1306) (by decide +kernel) (by decide +kernel)
theorem t_1307 : (Cond.fieldLink RX7 37 "TicketWeaverModel" "handed" "[I") ∈ lw_good := t_of (i := 1307) (by decide +kernel) (by decide +kernel)
theorem t_1308 : (Cond.fieldLink RX7 40 "TicketWeaverModel" "closed" "[I") ∈ lw_good := t_of (i := 1308) (by decide +kernel) (by decide +kernel)
theorem t_1309 : (Cond.fieldLink RX7 43 "TicketWeaverModel" "into" "[I") ∈ lw_good := t_of (i := 1309) (by decide +kernel) (by decide +kernel)
theorem t_1310 : (Cond.fieldLink RX7 46 "TicketWeaverModel" "sent" "[I") ∈ lw_good := t_of (i := 1310) (by decide +kernel) (by decide +kernel)
theorem t_1311 : (Cond.fieldLink RX7 49 "TicketWeaverModel" "states" "[C") ∈ lw_good := t_of (i := 1311) (by decide +kernel) (by decide +kernel)
theorem t_1312 : (Cond.fieldLink RX7 53 "TicketWeaverModel" "areBreached" "[Z") ∈ lw_good := t_of (i := 1312) (by decide +kernel) (by decide +kernel)
theorem t_1313 : (Cond.fieldLink RX7 57 "TicketWeaverModel" "areOn" "[Z") ∈ lw_good := t_of (i := 1313) (by decide +kernel) (by decide +kernel)
theorem t_1314 : (Cond.fieldLink RX7 60 "TicketWeaverModel" "skills" "[I") ∈ lw_good := t_of (i := 1314) (by decide +kernel) (by decide +kernel)
theorem t_1315 : (Cond.fieldLink RX7 63 "TicketWeaverModel" "answers" "[I") ∈ lw_good := t_of (i := 1315) (by decide +kernel) (by decide +kernel)
theorem t_1316 : (Cond.fieldLink RX7 66 "TicketWeaverModel" "weights" "[I") ∈ lw_good := t_of (i := 1316) (by decide +kernel) (by decide +kernel)
theorem t_1317 : (Cond.fieldLink RX7 69 "TicketWeaverModel" "thrown" "I") ∈ lw_good := t_of (i := 1317) (by decide +kernel) (by decide +kernel)
theorem t_1318 : (Cond.fieldLink RX7 73 "TicketWeaverModel" "time" "I") ∈ lw_good := t_of (i := 1318) (by decide +kernel) (by decide +kernel)
theorem t_1319 : (Cond.fieldLink RX7 76 "TicketWeaverModel" "mails" "I") ∈ lw_good := t_of (i := 1319) (by decide +kernel) (by decide +kernel)
theorem t_1320 : (Cond.fieldLink RX7 79 "TicketWeaverModel" "tickets" "I") ∈ lw_good := t_of (i := 1320) (by decide +kernel) (by decide +kernel)
theorem t_1321 : (Cond.fieldLink RX7 82 "TicketWeaverModel" "agentCount" "I") ∈ lw_good := t_of (i := 1321) (by decide +kernel) (by decide +kernel)
theorem t_1322 : (Cond.fieldLink RX7 85 "TicketWeaverModel" "answerCount" "I") ∈ lw_good := t_of (i := 1322) (by decide +kernel) (by decide +kernel)
theorem t_1323 : (Cond.fieldLink RX7 88 "TicketWeaverModel" "breaches" "I") ∈ lw_good := t_of (i := 1323) (by decide +kernel) (by decide +kernel)
theorem t_1324 : (Cond.fieldLink RX7 91 "TicketWeaverModel" "sentCount" "I") ∈ lw_good := t_of (i := 1324) (by decide +kernel) (by decide +kernel)
theorem t_1325 : (Cond.fieldLink RX7 94 "TicketWeaverModel" "kept" "I") ∈ lw_good := t_of (i := 1325) (by decide +kernel) (by decide +kernel)
theorem t_1326 : (Cond.fieldLink RX7 97 "TicketWeaverModel" "clockSum" "I") ∈ lw_good := t_of (i := 1326) (by decide +kernel) (by decide +kernel)
theorem t_1327 : (Cond.fieldLink RX7 100 "TicketWeaverModel" "open" "J") ∈ lw_good := t_of (i := 1327) (by decide +kernel) (by decide +kernel)
theorem t_1389 : (Cond.arrayClass FieldType.char) ∈ lw_good := t_of (i := 1389) (by decide +kernel) (by decide +kernel)
theorem t_1390 : (Cond.arrayClass FieldType.boolean) ∈ lw_good := t_of (i := 1390) (by decide +kernel) (by decide +kernel)
theorem t_1391 : (Cond.methodLink RL 144 yX7_thrown) ∈ lw_good := t_of (i := 1391) (by decide +kernel) (by decide +kernel)
theorem t_1392 : (Cond.instanceMethod yX7_thrown) ∈ lw_good := t_of (i := 1392) (by decide +kernel) (by decide +kernel)
theorem t_1393 : (Cond.selects RX7 yX7_thrown yX7_thrown) ∈ lw_good := t_of (i := 1393) (by decide +kernel) (by decide +kernel)
theorem t_1394 : (Cond.code yX7_thrown cX7_thrown 1 (some FieldType.int)) ∈ lw_good := t_of (i := 1394) (by decide +kernel) (by decide +kernel)
theorem t_1395 : (Cond.methodLink RL 143 yX7_pass) ∈ lw_good := t_of (i := 1395) (by decide +kernel) (by decide +kernel)
theorem t_1396 : (Cond.instanceMethod yX7_pass) ∈ lw_good := t_of (i := 1396) (by decide +kernel) (by decide +kernel)
theorem t_1397 : (Cond.selects RX7 yX7_pass yX7_pass) ∈ lw_good := t_of (i := 1397) (by decide +kernel) (by decide +kernel)
theorem t_1398 : (Cond.code yX7_pass cX7_pass 4 (some FieldType.int)) ∈ lw_good := t_of (i := 1398) (by decide +kernel) (by decide +kernel)
theorem t_1399 : (Cond.methodLink RX7 104 yX7_in) ∈ lw_good := t_of (i := 1399) (by decide +kernel) (by decide +kernel)
theorem t_1400 : (Cond.static yX7_in) ∈ lw_good := t_of (i := 1400) (by decide +kernel) (by decide +kernel)
theorem t_1401 : (Cond.code yX7_in cX7_in 3 (some FieldType.boolean)) ∈ lw_good := t_of (i := 1401) (by decide +kernel) (by decide +kernel)
theorem t_1402 : (Cond.methodLink RX7 112 yX7_checked) ∈ lw_good := t_of (i := 1402) (by decide +kernel) (by decide +kernel)
theorem t_1404 : (Cond.instanceMethod yX7_checked) ∈ lw_good := t_of (i := 1404) (by decide +kernel) (by decide +kernel)
theorem t_1405 : (Cond.code yX7_checked cX7_checked 2 (some FieldType.int)) ∈ lw_good := t_of (i := 1405) (by decide +kernel) (by decide +kernel)
theorem t_1406 : (Cond.methodLink RX7 116 yX7_minute) ∈ lw_good := t_of (i := 1406) (by decide +kernel) (by decide +kernel)
theorem t_1408 : (Cond.instanceMethod yX7_minute) ∈ lw_good := t_of (i := 1408) (by decide +kernel) (by decide +kernel)
theorem t_1409 : (Cond.code yX7_minute cX7_minute 3 (some FieldType.int)) ∈ lw_good := t_of (i := 1409) (by decide +kernel) (by decide +kernel)
theorem t_1410 : (Cond.methodLink RX7 108 yX7_leftFor) ∈ lw_good := t_of (i := 1410) (by decide +kernel) (by decide +kernel)
theorem t_1412 : (Cond.instanceMethod yX7_leftFor) ∈ lw_good := t_of (i := 1412) (by decide +kernel) (by decide +kernel)
theorem t_1413 : (Cond.code yX7_leftFor cX7_leftFor 2 (some FieldType.int)) ∈ lw_good := t_of (i := 1413) (by decide +kernel) (by decide +kernel)
theorem t_1414 : (Cond.methodLink RL 151 yX7_time) ∈ lw_good := t_of (i := 1414) (by decide +kernel) (by decide +kernel)
theorem t_1415 : (Cond.instanceMethod yX7_time) ∈ lw_good := t_of (i := 1415) (by decide +kernel) (by decide +kernel)
theorem t_1416 : (Cond.selects RX7 yX7_time yX7_time) ∈ lw_good := t_of (i := 1416) (by decide +kernel) (by decide +kernel)
theorem t_1417 : (Cond.code yX7_time cX7_time 1 (some FieldType.int)) ∈ lw_good := t_of (i := 1417) (by decide +kernel) (by decide +kernel)
theorem t_1418 : (Cond.methodLink RX7 120 yX7_plain) ∈ lw_good := t_of (i := 1418) (by decide +kernel) (by decide +kernel)
theorem t_1420 : (Cond.instanceMethod yX7_plain) ∈ lw_good := t_of (i := 1420) (by decide +kernel) (by decide +kernel)
theorem t_1421 : (Cond.code yX7_plain cX7_plain 2 (some FieldType.int)) ∈ lw_good := t_of (i := 1421) (by decide +kernel) (by decide +kernel)
theorem t_1422 : (Cond.methodLink RL 155 yX7_setClass) ∈ lw_good := t_of (i := 1422) (by decide +kernel) (by decide +kernel)
theorem t_1423 : (Cond.instanceMethod yX7_setClass) ∈ lw_good := t_of (i := 1423) (by decide +kernel) (by decide +kernel)
theorem t_1424 : (Cond.selects RX7 yX7_setClass yX7_setClass) ∈ lw_good := t_of (i := 1424) (by decide +kernel) (by decide +kernel)
theorem t_1425 : (Cond.code yX7_setClass cX7_setClass 4 (some FieldType.int)) ∈ lw_good := t_of (i := 1425) (by decide +kernel) (by decide +kernel)
theorem t_1426 : (Cond.methodLink RL 158 yX7_setPromise) ∈ lw_good := t_of (i := 1426) (by decide +kernel) (by decide +kernel)
theorem t_1427 : (Cond.instanceMethod yX7_setPromise) ∈ lw_good := t_of (i := 1427) (by decide +kernel) (by decide +kernel)
theorem t_1428 : (Cond.selects RX7 yX7_setPromise yX7_setPromise) ∈ lw_good := t_of (i := 1428) (by decide +kernel) (by decide +kernel)
theorem t_1429 : (Cond.code yX7_setPromise cX7_setPromise 4 (some FieldType.int)) ∈ lw_good := t_of (i := 1429) (by decide +kernel) (by decide +kernel)
theorem t_1430 : (Cond.methodLink RL 162 yX7_mail) ∈ lw_good := t_of (i := 1430) (by decide +kernel) (by decide +kernel)
theorem t_1431 : (Cond.instanceMethod yX7_mail) ∈ lw_good := t_of (i := 1431) (by decide +kernel) (by decide +kernel)
theorem t_1432 : (Cond.selects RX7 yX7_mail yX7_mail) ∈ lw_good := t_of (i := 1432) (by decide +kernel) (by decide +kernel)
theorem t_1433 : (Cond.code yX7_mail cX7_mail 7 (some FieldType.int)) ∈ lw_good := t_of (i := 1433) (by decide +kernel) (by decide +kernel)
theorem t_1434 : (Cond.methodLink RX7 137 yX7_joined) ∈ lw_good := t_of (i := 1434) (by decide +kernel) (by decide +kernel)
theorem t_1436 : (Cond.instanceMethod yX7_joined) ∈ lw_good := t_of (i := 1436) (by decide +kernel) (by decide +kernel)
theorem t_1437 : (Cond.code yX7_joined cX7_joined 6 (some FieldType.int)) ∈ lw_good := t_of (i := 1437) (by decide +kernel) (by decide +kernel)
theorem t_1438 : (Cond.methodLink RX7 127 yX7_counts) ∈ lw_good := t_of (i := 1438) (by decide +kernel) (by decide +kernel)
theorem t_1440 : (Cond.instanceMethod yX7_counts) ∈ lw_good := t_of (i := 1440) (by decide +kernel) (by decide +kernel)
theorem t_1441 : (Cond.code yX7_counts cX7_counts 2 (some FieldType.boolean)) ∈ lw_good := t_of (i := 1441) (by decide +kernel) (by decide +kernel)
theorem t_1442 : (Cond.methodLink RX7 123 yX7_isLive) ∈ lw_good := t_of (i := 1442) (by decide +kernel) (by decide +kernel)
theorem t_1444 : (Cond.instanceMethod yX7_isLive) ∈ lw_good := t_of (i := 1444) (by decide +kernel) (by decide +kernel)
theorem t_1445 : (Cond.code yX7_isLive cX7_isLive 2 (some FieldType.boolean)) ∈ lw_good := t_of (i := 1445) (by decide +kernel) (by decide +kernel)
theorem t_1446 : (Cond.methodLink RX7 130 yX7_latest) ∈ lw_good := t_of (i := 1446) (by decide +kernel) (by decide +kernel)
theorem t_1448 : (Cond.instanceMethod yX7_latest) ∈ lw_good := t_of (i := 1448) (by decide +kernel) (by decide +kernel)
theorem t_1449 : (Cond.code yX7_latest cX7_latest 4 (some FieldType.int)) ∈ lw_good := t_of (i := 1449) (by decide +kernel) (by decide +kernel)
theorem t_1450 : (Cond.methodLink RX7 141 yX7_makes) ∈ lw_good := t_of (i := 1450) (by decide +kernel) (by decide +kernel)
theorem t_1452 : (Cond.instanceMethod yX7_makes) ∈ lw_good := t_of (i := 1452) (by decide +kernel) (by decide +kernel)
theorem t_1453 : (Cond.code yX7_makes cX7_makes 4 none) ∈ lw_good := t_of (i := 1453) (by decide +kernel) (by decide +kernel)
theorem t_1454 : (Cond.methodLink RX7 145 yX7_opens) ∈ lw_good := t_of (i := 1454) (by decide +kernel) (by decide +kernel)
theorem t_1456 : (Cond.instanceMethod yX7_opens) ∈ lw_good := t_of (i := 1456) (by decide +kernel) (by decide +kernel)
theorem t_1457 : (Cond.code yX7_opens cX7_opens 2 none) ∈ lw_good := t_of (i := 1457) (by decide +kernel) (by decide +kernel)
theorem t_1458 : (Cond.methodLink RX7 133 yX7_learns) ∈ lw_good := t_of (i := 1458) (by decide +kernel) (by decide +kernel)
theorem t_1460 : (Cond.instanceMethod yX7_learns) ∈ lw_good := t_of (i := 1460) (by decide +kernel) (by decide +kernel)
theorem t_1461 : (Cond.code yX7_learns cX7_learns 4 none) ∈ lw_good := t_of (i := 1461) (by decide +kernel) (by decide +kernel)
theorem t_1462 : (Cond.methodLink RL 165 yX7_ticketOf) ∈ lw_good := t_of (i := 1462) (by decide +kernel) (by decide +kernel)
theorem t_1463 : (Cond.instanceMethod yX7_ticketOf) ∈ lw_good := t_of (i := 1463) (by decide +kernel) (by decide +kernel)
theorem t_1464 : (Cond.selects RX7 yX7_ticketOf yX7_ticketOf) ∈ lw_good := t_of (i := 1464) (by decide +kernel) (by decide +kernel)
theorem t_1465 : (Cond.code yX7_ticketOf cX7_ticketOf 2 (some FieldType.int)) ∈ lw_good := t_of (i := 1465) (by decide +kernel) (by decide +kernel)
theorem t_1466 : (Cond.methodLink RL 169 yX7_mails) ∈ lw_good := t_of (i := 1466) (by decide +kernel) (by decide +kernel)
theorem t_1467 : (Cond.instanceMethod yX7_mails) ∈ lw_good := t_of (i := 1467) (by decide +kernel) (by decide +kernel)
theorem t_1468 : (Cond.selects RX7 yX7_mails yX7_mails) ∈ lw_good := t_of (i := 1468) (by decide +kernel) (by decide +kernel)
theorem t_1469 : (Cond.code yX7_mails cX7_mails 1 (some FieldType.int)) ∈ lw_good := t_of (i := 1469) (by decide +kernel) (by decide +kernel)
theorem t_1470 : (Cond.methodLink RL 172 yX7_mailsOf) ∈ lw_good := t_of (i := 1470) (by decide +kernel) (by decide +kernel)
theorem t_1471 : (Cond.instanceMethod yX7_mailsOf) ∈ lw_good := t_of (i := 1471) (by decide +kernel) (by decide +kernel)
theorem t_1472 : (Cond.selects RX7 yX7_mailsOf yX7_mailsOf) ∈ lw_good := t_of (i := 1472) (by decide +kernel) (by decide +kernel)
theorem t_1473 : (Cond.code yX7_mailsOf cX7_mailsOf 2 (some FieldType.int)) ∈ lw_good := t_of (i := 1473) (by decide +kernel) (by decide +kernel)
theorem t_1474 : (Cond.methodLink RX7 149 yX7_isTicket) ∈ lw_good := t_of (i := 1474) (by decide +kernel) (by decide +kernel)
theorem t_1476 : (Cond.instanceMethod yX7_isTicket) ∈ lw_good := t_of (i := 1476) (by decide +kernel) (by decide +kernel)
theorem t_1477 : (Cond.code yX7_isTicket cX7_isTicket 2 (some FieldType.boolean)) ∈ lw_good := t_of (i := 1477) (by decide +kernel) (by decide +kernel)
theorem t_1478 : (Cond.methodLink RX7 152 yX7_countOf) ∈ lw_good := t_of (i := 1478) (by decide +kernel) (by decide +kernel)
theorem t_1480 : (Cond.instanceMethod yX7_countOf) ∈ lw_good := t_of (i := 1480) (by decide +kernel) (by decide +kernel)
theorem t_1481 : (Cond.code yX7_countOf cX7_countOf 4 (some FieldType.int)) ∈ lw_good := t_of (i := 1481) (by decide +kernel) (by decide +kernel)
theorem t_1482 : (Cond.methodLink RL 175 yX7_mailAt) ∈ lw_good := t_of (i := 1482) (by decide +kernel) (by decide +kernel)
theorem t_1483 : (Cond.instanceMethod yX7_mailAt) ∈ lw_good := t_of (i := 1483) (by decide +kernel) (by decide +kernel)
theorem t_1484 : (Cond.selects RX7 yX7_mailAt yX7_mailAt) ∈ lw_good := t_of (i := 1484) (by decide +kernel) (by decide +kernel)
theorem t_1485 : (Cond.code yX7_mailAt cX7_mailAt 5 (some FieldType.int)) ∈ lw_good := t_of (i := 1485) (by decide +kernel) (by decide +kernel)
theorem t_1486 : (Cond.methodLink RL 179 yX7_tickets) ∈ lw_good := t_of (i := 1486) (by decide +kernel) (by decide +kernel)
theorem t_1487 : (Cond.instanceMethod yX7_tickets) ∈ lw_good := t_of (i := 1487) (by decide +kernel) (by decide +kernel)
theorem t_1488 : (Cond.selects RX7 yX7_tickets yX7_tickets) ∈ lw_good := t_of (i := 1488) (by decide +kernel) (by decide +kernel)
theorem t_1489 : (Cond.code yX7_tickets cX7_tickets 1 (some FieldType.int)) ∈ lw_good := t_of (i := 1489) (by decide +kernel) (by decide +kernel)
theorem t_1490 : (Cond.methodLink RL 182 yX7_stateOf) ∈ lw_good := t_of (i := 1490) (by decide +kernel) (by decide +kernel)
theorem t_1491 : (Cond.instanceMethod yX7_stateOf) ∈ lw_good := t_of (i := 1491) (by decide +kernel) (by decide +kernel)
theorem t_1492 : (Cond.selects RX7 yX7_stateOf yX7_stateOf) ∈ lw_good := t_of (i := 1492) (by decide +kernel) (by decide +kernel)
theorem t_1493 : (Cond.code yX7_stateOf cX7_stateOf 2 (some FieldType.char)) ∈ lw_good := t_of (i := 1493) (by decide +kernel) (by decide +kernel)
theorem t_1494 : (Cond.methodLink RL 185 yX7_mergedInto) ∈ lw_good := t_of (i := 1494) (by decide +kernel) (by decide +kernel)
theorem t_1495 : (Cond.instanceMethod yX7_mergedInto) ∈ lw_good := t_of (i := 1495) (by decide +kernel) (by decide +kernel)
theorem t_1496 : (Cond.selects RX7 yX7_mergedInto yX7_mergedInto) ∈ lw_good := t_of (i := 1496) (by decide +kernel) (by decide +kernel)
theorem t_1497 : (Cond.code yX7_mergedInto cX7_mergedInto 3 (some FieldType.int)) ∈ lw_good := t_of (i := 1497) (by decide +kernel) (by decide +kernel)
theorem t_1498 : (Cond.methodLink RL 188 yX7_setTopic) ∈ lw_good := t_of (i := 1498) (by decide +kernel) (by decide +kernel)
theorem t_1499 : (Cond.instanceMethod yX7_setTopic) ∈ lw_good := t_of (i := 1499) (by decide +kernel) (by decide +kernel)
theorem t_1500 : (Cond.selects RX7 yX7_setTopic yX7_setTopic) ∈ lw_good := t_of (i := 1500) (by decide +kernel) (by decide +kernel)
theorem t_1501 : (Cond.code yX7_setTopic cX7_setTopic 4 (some FieldType.int)) ∈ lw_good := t_of (i := 1501) (by decide +kernel) (by decide +kernel)
theorem t_1502 : (Cond.methodLink RX7 155 yX7_hasSkill) ∈ lw_good := t_of (i := 1502) (by decide +kernel) (by decide +kernel)
theorem t_1504 : (Cond.instanceMethod yX7_hasSkill) ∈ lw_good := t_of (i := 1504) (by decide +kernel) (by decide +kernel)
theorem t_1505 : (Cond.code yX7_hasSkill cX7_hasSkill 3 (some FieldType.boolean)) ∈ lw_good := t_of (i := 1505) (by decide +kernel) (by decide +kernel)
theorem t_1506 : (Cond.methodLink RL 191 yX7_clock) ∈ lw_good := t_of (i := 1506) (by decide +kernel) (by decide +kernel)
theorem t_1507 : (Cond.instanceMethod yX7_clock) ∈ lw_good := t_of (i := 1507) (by decide +kernel) (by decide +kernel)
theorem t_1508 : (Cond.selects RX7 yX7_clock yX7_clock) ∈ lw_good := t_of (i := 1508) (by decide +kernel) (by decide +kernel)
theorem t_1509 : (Cond.code yX7_clock cX7_clock 2 (some FieldType.int)) ∈ lw_good := t_of (i := 1509) (by decide +kernel) (by decide +kernel)
theorem t_1510 : (Cond.methodLink RX7 159 yX7_wrongLive) ∈ lw_good := t_of (i := 1510) (by decide +kernel) (by decide +kernel)
theorem t_1512 : (Cond.instanceMethod yX7_wrongLive) ∈ lw_good := t_of (i := 1512) (by decide +kernel) (by decide +kernel)
theorem t_1513 : (Cond.code yX7_wrongLive cX7_wrongLive 2 (some FieldType.int)) ∈ lw_good := t_of (i := 1513) (by decide +kernel) (by decide +kernel)
theorem t_1514 : (Cond.methodLink RL 194 yX7_leftOf) ∈ lw_good := t_of (i := 1514) (by decide +kernel) (by decide +kernel)
theorem t_1515 : (Cond.instanceMethod yX7_leftOf) ∈ lw_good := t_of (i := 1515) (by decide +kernel) (by decide +kernel)
theorem t_1516 : (Cond.selects RX7 yX7_leftOf yX7_leftOf) ∈ lw_good := t_of (i := 1516) (by decide +kernel) (by decide +kernel)
theorem t_1517 : (Cond.code yX7_leftOf cX7_leftOf 2 (some FieldType.int)) ∈ lw_good := t_of (i := 1517) (by decide +kernel) (by decide +kernel)
theorem t_1518 : (Cond.methodLink RL 197 yX7_isBreached) ∈ lw_good := t_of (i := 1518) (by decide +kernel) (by decide +kernel)
theorem t_1519 : (Cond.instanceMethod yX7_isBreached) ∈ lw_good := t_of (i := 1519) (by decide +kernel) (by decide +kernel)
theorem t_1520 : (Cond.selects RX7 yX7_isBreached yX7_isBreached) ∈ lw_good := t_of (i := 1520) (by decide +kernel) (by decide +kernel)
theorem t_1521 : (Cond.code yX7_isBreached cX7_isBreached 2 (some FieldType.boolean)) ∈ lw_good := t_of (i := 1521) (by decide +kernel) (by decide +kernel)
theorem t_1522 : (Cond.methodLink RL 200 yX7_addAgent) ∈ lw_good := t_of (i := 1522) (by decide +kernel) (by decide +kernel)
theorem t_1523 : (Cond.instanceMethod yX7_addAgent) ∈ lw_good := t_of (i := 1523) (by decide +kernel) (by decide +kernel)
theorem t_1524 : (Cond.selects RX7 yX7_addAgent yX7_addAgent) ∈ lw_good := t_of (i := 1524) (by decide +kernel) (by decide +kernel)
theorem t_1525 : (Cond.code yX7_addAgent cX7_addAgent 2 (some FieldType.int)) ∈ lw_good := t_of (i := 1525) (by decide +kernel) (by decide +kernel)
theorem t_1526 : (Cond.methodLink RL 203 yX7_learn) ∈ lw_good := t_of (i := 1526) (by decide +kernel) (by decide +kernel)
theorem t_1527 : (Cond.instanceMethod yX7_learn) ∈ lw_good := t_of (i := 1527) (by decide +kernel) (by decide +kernel)
theorem t_1528 : (Cond.selects RX7 yX7_learn yX7_learn) ∈ lw_good := t_of (i := 1528) (by decide +kernel) (by decide +kernel)
theorem t_1529 : (Cond.code yX7_learn cX7_learn 3 (some FieldType.int)) ∈ lw_good := t_of (i := 1529) (by decide +kernel) (by decide +kernel)
theorem t_1530 : (Cond.methodLink RX7 162 yX7_isAgent) ∈ lw_good := t_of (i := 1530) (by decide +kernel) (by decide +kernel)
theorem t_1532 : (Cond.instanceMethod yX7_isAgent) ∈ lw_good := t_of (i := 1532) (by decide +kernel) (by decide +kernel)
theorem t_1533 : (Cond.code yX7_isAgent cX7_isAgent 2 (some FieldType.boolean)) ∈ lw_good := t_of (i := 1533) (by decide +kernel) (by decide +kernel)
theorem t_1534 : (Cond.methodLink RX7 165 yX7_bits) ∈ lw_good := t_of (i := 1534) (by decide +kernel) (by decide +kernel)
theorem t_1535 : (Cond.static yX7_bits) ∈ lw_good := t_of (i := 1535) (by decide +kernel) (by decide +kernel)
theorem t_1536 : (Cond.code yX7_bits cX7_bits 3 (some FieldType.int)) ∈ lw_good := t_of (i := 1536) (by decide +kernel) (by decide +kernel)
theorem t_1537 : (Cond.methodLink RL 207 yX7_setOnShift) ∈ lw_good := t_of (i := 1537) (by decide +kernel) (by decide +kernel)
theorem t_1538 : (Cond.instanceMethod yX7_setOnShift) ∈ lw_good := t_of (i := 1538) (by decide +kernel) (by decide +kernel)
theorem t_1539 : (Cond.selects RX7 yX7_setOnShift yX7_setOnShift) ∈ lw_good := t_of (i := 1539) (by decide +kernel) (by decide +kernel)
theorem t_1540 : (Cond.code yX7_setOnShift cX7_setOnShift 5 (some FieldType.boolean)) ∈ lw_good := t_of (i := 1540) (by decide +kernel) (by decide +kernel)
theorem t_1541 : (Cond.methodLink RL 210 yX7_held) ∈ lw_good := t_of (i := 1541) (by decide +kernel) (by decide +kernel)
theorem t_1542 : (Cond.instanceMethod yX7_held) ∈ lw_good := t_of (i := 1542) (by decide +kernel) (by decide +kernel)
theorem t_1543 : (Cond.selects RX7 yX7_held yX7_held) ∈ lw_good := t_of (i := 1543) (by decide +kernel) (by decide +kernel)
theorem t_1544 : (Cond.code yX7_held cX7_held 2 (some FieldType.int)) ∈ lw_good := t_of (i := 1544) (by decide +kernel) (by decide +kernel)
theorem t_1545 : (Cond.methodLink RX7 168 yX7_heldBy) ∈ lw_good := t_of (i := 1545) (by decide +kernel) (by decide +kernel)
theorem t_1547 : (Cond.instanceMethod yX7_heldBy) ∈ lw_good := t_of (i := 1547) (by decide +kernel) (by decide +kernel)
theorem t_1548 : (Cond.code yX7_heldBy cX7_heldBy 4 (some FieldType.int)) ∈ lw_good := t_of (i := 1548) (by decide +kernel) (by decide +kernel)
theorem t_1549 : (Cond.methodLink RL 213 yX7_agentOf) ∈ lw_good := t_of (i := 1549) (by decide +kernel) (by decide +kernel)
theorem t_1550 : (Cond.instanceMethod yX7_agentOf) ∈ lw_good := t_of (i := 1550) (by decide +kernel) (by decide +kernel)
theorem t_1551 : (Cond.selects RX7 yX7_agentOf yX7_agentOf) ∈ lw_good := t_of (i := 1551) (by decide +kernel) (by decide +kernel)
theorem t_1552 : (Cond.code yX7_agentOf cX7_agentOf 2 (some FieldType.int)) ∈ lw_good := t_of (i := 1552) (by decide +kernel) (by decide +kernel)
theorem t_1553 : (Cond.methodLink RL 216 yX7_nextFor) ∈ lw_good := t_of (i := 1553) (by decide +kernel) (by decide +kernel)
theorem t_1554 : (Cond.instanceMethod yX7_nextFor) ∈ lw_good := t_of (i := 1554) (by decide +kernel) (by decide +kernel)
theorem t_1555 : (Cond.selects RX7 yX7_nextFor yX7_nextFor) ∈ lw_good := t_of (i := 1555) (by decide +kernel) (by decide +kernel)
theorem t_1556 : (Cond.code yX7_nextFor cX7_nextFor 2 (some FieldType.int)) ∈ lw_good := t_of (i := 1556) (by decide +kernel) (by decide +kernel)
theorem t_1557 : (Cond.methodLink RX7 180 yX7_next) ∈ lw_good := t_of (i := 1557) (by decide +kernel) (by decide +kernel)
theorem t_1559 : (Cond.instanceMethod yX7_next) ∈ lw_good := t_of (i := 1559) (by decide +kernel) (by decide +kernel)
theorem t_1560 : (Cond.code yX7_next cX7_next 4 (some FieldType.int)) ∈ lw_good := t_of (i := 1560) (by decide +kernel) (by decide +kernel)
theorem t_1561 : (Cond.methodLink RX7 174 yX7_isFor) ∈ lw_good := t_of (i := 1561) (by decide +kernel) (by decide +kernel)
theorem t_1563 : (Cond.instanceMethod yX7_isFor) ∈ lw_good := t_of (i := 1563) (by decide +kernel) (by decide +kernel)
theorem t_1564 : (Cond.code yX7_isFor cX7_isFor 3 (some FieldType.boolean)) ∈ lw_good := t_of (i := 1564) (by decide +kernel) (by decide +kernel)
theorem t_1565 : (Cond.methodLink RX7 171 yX7_canAnswer) ∈ lw_good := t_of (i := 1565) (by decide +kernel) (by decide +kernel)
theorem t_1567 : (Cond.instanceMethod yX7_canAnswer) ∈ lw_good := t_of (i := 1567) (by decide +kernel) (by decide +kernel)
theorem t_1568 : (Cond.code yX7_canAnswer cX7_canAnswer 3 (some FieldType.boolean)) ∈ lw_good := t_of (i := 1568) (by decide +kernel) (by decide +kernel)
theorem t_1569 : (Cond.methodLink RX7 177 yX7_isSooner) ∈ lw_good := t_of (i := 1569) (by decide +kernel) (by decide +kernel)
theorem t_1571 : (Cond.instanceMethod yX7_isSooner) ∈ lw_good := t_of (i := 1571) (by decide +kernel) (by decide +kernel)
theorem t_1572 : (Cond.code yX7_isSooner cX7_isSooner 3 (some FieldType.boolean)) ∈ lw_good := t_of (i := 1572) (by decide +kernel) (by decide +kernel)
theorem t_1573 : (Cond.methodLink RL 219 yX7_nextByTickets) ∈ lw_good := t_of (i := 1573) (by decide +kernel) (by decide +kernel)
theorem t_1574 : (Cond.instanceMethod yX7_nextByTickets) ∈ lw_good := t_of (i := 1574) (by decide +kernel) (by decide +kernel)
theorem t_1575 : (Cond.selects RX7 yX7_nextByTickets yX7_nextByTickets) ∈ lw_good := t_of (i := 1575) (by decide +kernel) (by decide +kernel)
theorem t_1576 : (Cond.code yX7_nextByTickets cX7_nextByTickets 2 (some FieldType.int)) ∈ lw_good := t_of (i := 1576) (by decide +kernel) (by decide +kernel)
theorem t_1577 : (Cond.methodLink RX7 183 yX7_nextFor) ∈ lw_good := t_of (i := 1577) (by decide +kernel) (by decide +kernel)
theorem t_1578 : (Cond.methodLink RL 222 yX7_waiting) ∈ lw_good := t_of (i := 1578) (by decide +kernel) (by decide +kernel)
theorem t_1579 : (Cond.instanceMethod yX7_waiting) ∈ lw_good := t_of (i := 1579) (by decide +kernel) (by decide +kernel)
theorem t_1580 : (Cond.selects RX7 yX7_waiting yX7_waiting) ∈ lw_good := t_of (i := 1580) (by decide +kernel) (by decide +kernel)
theorem t_1581 : (Cond.code yX7_waiting cX7_waiting 4 (some FieldType.int)) ∈ lw_good := t_of (i := 1581) (by decide +kernel) (by decide +kernel)
theorem t_1582 : (Cond.methodLink RL 225 yX7_take) ∈ lw_good := t_of (i := 1582) (by decide +kernel) (by decide +kernel)
theorem t_1583 : (Cond.instanceMethod yX7_take) ∈ lw_good := t_of (i := 1583) (by decide +kernel) (by decide +kernel)
theorem t_1584 : (Cond.selects RX7 yX7_take yX7_take) ∈ lw_good := t_of (i := 1584) (by decide +kernel) (by decide +kernel)
theorem t_1585 : (Cond.code yX7_take cX7_take 3 (some FieldType.int)) ∈ lw_good := t_of (i := 1585) (by decide +kernel) (by decide +kernel)
theorem t_1586 : (Cond.methodLink RL 228 yX7_handOver) ∈ lw_good := t_of (i := 1586) (by decide +kernel) (by decide +kernel)
theorem t_1587 : (Cond.instanceMethod yX7_handOver) ∈ lw_good := t_of (i := 1587) (by decide +kernel) (by decide +kernel)
theorem t_1588 : (Cond.selects RX7 yX7_handOver yX7_handOver) ∈ lw_good := t_of (i := 1588) (by decide +kernel) (by decide +kernel)
theorem t_1589 : (Cond.code yX7_handOver cX7_handOver 3 (some FieldType.int)) ∈ lw_good := t_of (i := 1589) (by decide +kernel) (by decide +kernel)
theorem t_1590 : (Cond.methodLink RL 231 yX7_giveBack) ∈ lw_good := t_of (i := 1590) (by decide +kernel) (by decide +kernel)
theorem t_1591 : (Cond.instanceMethod yX7_giveBack) ∈ lw_good := t_of (i := 1591) (by decide +kernel) (by decide +kernel)
theorem t_1592 : (Cond.selects RX7 yX7_giveBack yX7_giveBack) ∈ lw_good := t_of (i := 1592) (by decide +kernel) (by decide +kernel)
theorem t_1593 : (Cond.code yX7_giveBack cX7_giveBack 3 (some FieldType.int)) ∈ lw_good := t_of (i := 1593) (by decide +kernel) (by decide +kernel)
theorem t_1594 : (Cond.methodLink RL 234 yX7_hold) ∈ lw_good := t_of (i := 1594) (by decide +kernel) (by decide +kernel)
theorem t_1595 : (Cond.instanceMethod yX7_hold) ∈ lw_good := t_of (i := 1595) (by decide +kernel) (by decide +kernel)
theorem t_1596 : (Cond.selects RX7 yX7_hold yX7_hold) ∈ lw_good := t_of (i := 1596) (by decide +kernel) (by decide +kernel)
theorem t_1597 : (Cond.code yX7_hold cX7_hold 2 (some FieldType.int)) ∈ lw_good := t_of (i := 1597) (by decide +kernel) (by decide +kernel)
theorem t_1598 : (Cond.methodLink RX7 186 yX7_turns) ∈ lw_good := t_of (i := 1598) (by decide +kernel) (by decide +kernel)
theorem t_1600 : (Cond.instanceMethod yX7_turns) ∈ lw_good := t_of (i := 1600) (by decide +kernel) (by decide +kernel)
theorem t_1601 : (Cond.code yX7_turns cX7_turns 4 (some FieldType.int)) ∈ lw_good := t_of (i := 1601) (by decide +kernel) (by decide +kernel)
theorem t_1602 : (Cond.methodLink RL 237 yX7_resume) ∈ lw_good := t_of (i := 1602) (by decide +kernel) (by decide +kernel)
theorem t_1603 : (Cond.instanceMethod yX7_resume) ∈ lw_good := t_of (i := 1603) (by decide +kernel) (by decide +kernel)
theorem t_1604 : (Cond.selects RX7 yX7_resume yX7_resume) ∈ lw_good := t_of (i := 1604) (by decide +kernel) (by decide +kernel)
theorem t_1605 : (Cond.code yX7_resume cX7_resume 2 (some FieldType.int)) ∈ lw_good := t_of (i := 1605) (by decide +kernel) (by decide +kernel)
theorem t_1606 : (Cond.methodLink RL 240 yX7_answer) ∈ lw_good := t_of (i := 1606) (by decide +kernel) (by decide +kernel)
theorem t_1607 : (Cond.instanceMethod yX7_answer) ∈ lw_good := t_of (i := 1607) (by decide +kernel) (by decide +kernel)
theorem t_1608 : (Cond.selects RX7 yX7_answer yX7_answer) ∈ lw_good := t_of (i := 1608) (by decide +kernel) (by decide +kernel)
theorem t_1609 : (Cond.code yX7_answer cX7_answer 3 (some FieldType.int)) ∈ lw_good := t_of (i := 1609) (by decide +kernel) (by decide +kernel)
theorem t_1610 : (Cond.methodLink RL 243 yX7_close) ∈ lw_good := t_of (i := 1610) (by decide +kernel) (by decide +kernel)
theorem t_1611 : (Cond.instanceMethod yX7_close) ∈ lw_good := t_of (i := 1611) (by decide +kernel) (by decide +kernel)
theorem t_1612 : (Cond.selects RX7 yX7_close yX7_close) ∈ lw_good := t_of (i := 1612) (by decide +kernel) (by decide +kernel)
theorem t_1613 : (Cond.code yX7_close cX7_close 4 (some FieldType.int)) ∈ lw_good := t_of (i := 1613) (by decide +kernel) (by decide +kernel)
theorem t_1614 : (Cond.methodLink RL 246 yX7_merge) ∈ lw_good := t_of (i := 1614) (by decide +kernel) (by decide +kernel)
theorem t_1615 : (Cond.instanceMethod yX7_merge) ∈ lw_good := t_of (i := 1615) (by decide +kernel) (by decide +kernel)
theorem t_1616 : (Cond.selects RX7 yX7_merge yX7_merge) ∈ lw_good := t_of (i := 1616) (by decide +kernel) (by decide +kernel)
theorem t_1617 : (Cond.code yX7_merge cX7_merge 4 (some FieldType.int)) ∈ lw_good := t_of (i := 1617) (by decide +kernel) (by decide +kernel)
theorem t_1618 : (Cond.methodLink RL 249 yX7_addAnswer) ∈ lw_good := t_of (i := 1618) (by decide +kernel) (by decide +kernel)
theorem t_1619 : (Cond.instanceMethod yX7_addAnswer) ∈ lw_good := t_of (i := 1619) (by decide +kernel) (by decide +kernel)
theorem t_1620 : (Cond.selects RX7 yX7_addAnswer yX7_addAnswer) ∈ lw_good := t_of (i := 1620) (by decide +kernel) (by decide +kernel)
theorem t_1621 : (Cond.code yX7_addAnswer cX7_addAnswer 2 (some FieldType.int)) ∈ lw_good := t_of (i := 1621) (by decide +kernel) (by decide +kernel)
theorem t_1622 : (Cond.methodLink RL 252 yX7_weight) ∈ lw_good := t_of (i := 1622) (by decide +kernel) (by decide +kernel)
theorem t_1623 : (Cond.instanceMethod yX7_weight) ∈ lw_good := t_of (i := 1623) (by decide +kernel) (by decide +kernel)
theorem t_1624 : (Cond.selects RX7 yX7_weight yX7_weight) ∈ lw_good := t_of (i := 1624) (by decide +kernel) (by decide +kernel)
theorem t_1625 : (Cond.code yX7_weight cX7_weight 3 (some FieldType.int)) ∈ lw_good := t_of (i := 1625) (by decide +kernel) (by decide +kernel)
theorem t_1626 : (Cond.methodLink RL 255 yX7_suggestion) ∈ lw_good := t_of (i := 1626) (by decide +kernel) (by decide +kernel)
theorem t_1627 : (Cond.instanceMethod yX7_suggestion) ∈ lw_good := t_of (i := 1627) (by decide +kernel) (by decide +kernel)
theorem t_1628 : (Cond.selects RX7 yX7_suggestion yX7_suggestion) ∈ lw_good := t_of (i := 1628) (by decide +kernel) (by decide +kernel)
theorem t_1629 : (Cond.code yX7_suggestion cX7_suggestion 7 (some FieldType.int)) ∈ lw_good := t_of (i := 1629) (by decide +kernel) (by decide +kernel)
theorem t_1630 : (Cond.methodLink RX7 190 yX7_wordsOf) ∈ lw_good := t_of (i := 1630) (by decide +kernel) (by decide +kernel)
theorem t_1632 : (Cond.instanceMethod yX7_wordsOf) ∈ lw_good := t_of (i := 1632) (by decide +kernel) (by decide +kernel)
theorem t_1633 : (Cond.code yX7_wordsOf cX7_wordsOf 4 (some FieldType.int)) ∈ lw_good := t_of (i := 1633) (by decide +kernel) (by decide +kernel)
theorem t_1634 : (Cond.methodLink RL 258 yX7_suggestionByWords) ∈ lw_good := t_of (i := 1634) (by decide +kernel) (by decide +kernel)
theorem t_1635 : (Cond.instanceMethod yX7_suggestionByWords) ∈ lw_good := t_of (i := 1635) (by decide +kernel) (by decide +kernel)
theorem t_1636 : (Cond.selects RX7 yX7_suggestionByWords yX7_suggestionByWords) ∈ lw_good := t_of (i := 1636) (by decide +kernel) (by decide +kernel)
theorem t_1637 : (Cond.code yX7_suggestionByWords cX7_suggestionByWords 2 (some FieldType.int)) ∈ lw_good := t_of (i := 1637) (by decide +kernel) (by decide +kernel)
theorem t_1638 : (Cond.methodLink RX7 193 yX7_suggestion) ∈ lw_good := t_of (i := 1638) (by decide +kernel) (by decide +kernel)
theorem t_1639 : (Cond.methodLink RL 262 yX7_breaches) ∈ lw_good := t_of (i := 1639) (by decide +kernel) (by decide +kernel)
theorem t_1640 : (Cond.instanceMethod yX7_breaches) ∈ lw_good := t_of (i := 1640) (by decide +kernel) (by decide +kernel)
theorem t_1641 : (Cond.selects RX7 yX7_breaches yX7_breaches) ∈ lw_good := t_of (i := 1641) (by decide +kernel) (by decide +kernel)
theorem t_1642 : (Cond.code yX7_breaches cX7_breaches 1 (some FieldType.int)) ∈ lw_good := t_of (i := 1642) (by decide +kernel) (by decide +kernel)
theorem t_1643 : (Cond.methodLink RL 266 yX7_answers) ∈ lw_good := t_of (i := 1643) (by decide +kernel) (by decide +kernel)
theorem t_1644 : (Cond.instanceMethod yX7_answers) ∈ lw_good := t_of (i := 1644) (by decide +kernel) (by decide +kernel)
theorem t_1645 : (Cond.selects RX7 yX7_answers yX7_answers) ∈ lw_good := t_of (i := 1645) (by decide +kernel) (by decide +kernel)
theorem t_1646 : (Cond.code yX7_answers cX7_answers 1 (some FieldType.int)) ∈ lw_good := t_of (i := 1646) (by decide +kernel) (by decide +kernel)
theorem t_1647 : (Cond.methodLink RL 271 yX7_minutesOpen) ∈ lw_good := t_of (i := 1647) (by decide +kernel) (by decide +kernel)
theorem t_1648 : (Cond.instanceMethod yX7_minutesOpen) ∈ lw_good := t_of (i := 1648) (by decide +kernel) (by decide +kernel)
theorem t_1649 : (Cond.selects RX7 yX7_minutesOpen yX7_minutesOpen) ∈ lw_good := t_of (i := 1649) (by decide +kernel) (by decide +kernel)
theorem t_1650 : (Cond.code yX7_minutesOpen cX7_minutesOpen 1 (some FieldType.long)) ∈ lw_good := t_of (i := 1650) (by decide +kernel) (by decide +kernel)
theorem t_1651 : (Cond.methodLink RL 275 yX7_keptShare) ∈ lw_good := t_of (i := 1651) (by decide +kernel) (by decide +kernel)
theorem t_1652 : (Cond.instanceMethod yX7_keptShare) ∈ lw_good := t_of (i := 1652) (by decide +kernel) (by decide +kernel)
theorem t_1653 : (Cond.selects RX7 yX7_keptShare yX7_keptShare) ∈ lw_good := t_of (i := 1653) (by decide +kernel) (by decide +kernel)
theorem t_1654 : (Cond.code yX7_keptShare cX7_keptShare 1 (some FieldType.float)) ∈ lw_good := t_of (i := 1654) (by decide +kernel) (by decide +kernel)
theorem t_1655 : (Cond.methodLink RL 278 yX7_meanClock) ∈ lw_good := t_of (i := 1655) (by decide +kernel) (by decide +kernel)
theorem t_1656 : (Cond.instanceMethod yX7_meanClock) ∈ lw_good := t_of (i := 1656) (by decide +kernel) (by decide +kernel)
theorem t_1657 : (Cond.selects RX7 yX7_meanClock yX7_meanClock) ∈ lw_good := t_of (i := 1657) (by decide +kernel) (by decide +kernel)
theorem t_1658 : (Cond.code yX7_meanClock cX7_meanClock 1 (some FieldType.double)) ∈ lw_good := t_of (i := 1658) (by decide +kernel) (by decide +kernel)
theorem t_1659 : (Cond.methodLink RL 283 yX7_isSound) ∈ lw_good := t_of (i := 1659) (by decide +kernel) (by decide +kernel)
theorem t_1660 : (Cond.instanceMethod yX7_isSound) ∈ lw_good := t_of (i := 1660) (by decide +kernel) (by decide +kernel)
theorem t_1661 : (Cond.selects RX7 yX7_isSound yX7_isSound) ∈ lw_good := t_of (i := 1661) (by decide +kernel) (by decide +kernel)
theorem t_1662 : (Cond.code yX7_isSound cX7_isSound 1 (some FieldType.boolean)) ∈ lw_good := t_of (i := 1662) (by decide +kernel) (by decide +kernel)
theorem t_1663 : (Cond.arrayClass FieldType.long) ∈ lw_good := t_of (i := 1663) (by decide +kernel) (by decide +kernel)
theorem t_1664 : (Cond.arrayClass FieldType.double) ∈ lw_good := t_of (i := 1664) (by decide +kernel) (by decide +kernel)
theorem n_51 : (Cond.fieldLinkNest RX4 43 "TicketWeaver$Customer" "promises" "[I" "TicketWeaver") ∈ lw_nest := n_of (i := 51) (by decide +kernel) rfl
theorem n_52 : (Cond.fieldLinkNest RX6 93 "TicketWeaver$Customer" "level" "I" "TicketWeaver") ∈ lw_nest := n_of (i := 52) (by decide +kernel) rfl
theorem n_53 : (Cond.fieldLinkNest RX4 49 "TicketWeaver$Customer" "level" "I" "TicketWeaver") ∈ lw_nest := n_of (i := 53) (by decide +kernel) rfl
theorem n_262 : (Cond.castable "java/lang/IllegalArgumentException" "java/lang/IllegalArgumentException") ∈ lw_nest := n_of (i := 262) (by decide +kernel) rfl
theorem n_379 : (Cond.castable "java/lang/IndexOutOfBoundsException" "java/lang/IndexOutOfBoundsException") ∈ lw_nest := n_of (i := 379) (by decide +kernel) rfl
theorem n_460 : (Cond.castable "[B" "java/lang/Cloneable") ∈ lw_nest := n_of (i := 460) (by decide +kernel) rfl
theorem n_708 : (Cond.castable "java/util/NoSuchElementException" "java/util/NoSuchElementException") ∈ lw_nest := n_of (i := 708) (by decide +kernel) rfl
theorem n_742 : (Cond.castable "java/lang/IllegalStateException" "java/lang/IllegalStateException") ∈ lw_nest := n_of (i := 742) (by decide +kernel) rfl
theorem n_764 : (Cond.fieldLinkNest RX6 141 "TicketWeaver$Ticket" "number" "I" "TicketWeaver") ∈ lw_nest := n_of (i := 764) (by decide +kernel) rfl
theorem n_766 : (Cond.fieldLinkNest RX6 298 "TicketWeaver$Ticket" "customer" "LTicketWeaver$Customer;" "TicketWeaver") ∈ lw_nest := n_of (i := 766) (by decide +kernel) rfl
theorem n_768 : (Cond.fieldLinkNest RX6 361 "TicketWeaver$Ticket" "subject" "I" "TicketWeaver") ∈ lw_nest := n_of (i := 768) (by decide +kernel) rfl
theorem n_770 : (Cond.fieldLinkNest RX6 156 "TicketWeaver$Ticket" "mails" "Ljava/util/ArrayList;" "TicketWeaver") ∈ lw_nest := n_of (i := 770) (by decide +kernel) rfl
theorem n_772 : (Cond.fieldLinkNest RX6 170 "TicketWeaver$Ticket" "topic" "I" "TicketWeaver") ∈ lw_nest := n_of (i := 772) (by decide +kernel) rfl
theorem n_774 : (Cond.fieldLinkNest RX6 374 "TicketWeaver$Ticket" "words" "I" "TicketWeaver") ∈ lw_nest := n_of (i := 774) (by decide +kernel) rfl
theorem n_776 : (Cond.fieldLinkNest RX6 72 "TicketWeaver$Ticket" "state" "C" "TicketWeaver") ∈ lw_nest := n_of (i := 776) (by decide +kernel) rfl
theorem n_778 : (Cond.fieldLinkNest RX6 185 "TicketWeaver$Ticket" "clock" "I" "TicketWeaver") ∈ lw_nest := n_of (i := 778) (by decide +kernel) rfl
theorem n_780 : (Cond.fieldLinkNest RX6 195 "TicketWeaver$Ticket" "isBroken" "Z" "TicketWeaver") ∈ lw_nest := n_of (i := 780) (by decide +kernel) rfl
theorem n_782 : (Cond.fieldLinkNest RX6 173 "TicketWeaver$Ticket" "agent" "LTicketWeaver$Agent;" "TicketWeaver") ∈ lw_nest := n_of (i := 782) (by decide +kernel) rfl
theorem n_783 : (Cond.fieldLinkNest RX6 261 "TicketWeaver$Ticket" "timesHandedOver" "I" "TicketWeaver") ∈ lw_nest := n_of (i := 783) (by decide +kernel) rfl
theorem n_785 : (Cond.fieldLinkNest RX6 277 "TicketWeaver$Ticket" "sent" "LTicketWeaver$Prepared;" "TicketWeaver") ∈ lw_nest := n_of (i := 785) (by decide +kernel) rfl
theorem n_787 : (Cond.fieldLinkNest RX6 290 "TicketWeaver$Ticket" "closedAt" "I" "TicketWeaver") ∈ lw_nest := n_of (i := 787) (by decide +kernel) rfl
theorem n_788 : (Cond.fieldLinkNest RX6 160 "TicketWeaver$Ticket" "into" "LTicketWeaver$Ticket;" "TicketWeaver") ∈ lw_nest := n_of (i := 788) (by decide +kernel) rfl
theorem n_845 : (Cond.fieldLinkNest RX6 159 "TicketWeaver$Mail" "number" "I" "TicketWeaver") ∈ lw_nest := n_of (i := 845) (by decide +kernel) rfl
theorem n_846 : (Cond.fieldLinkNest RX4 87 "TicketWeaver$Mail" "number" "I" "TicketWeaver") ∈ lw_nest := n_of (i := 846) (by decide +kernel) rfl
theorem n_848 : (Cond.fieldLinkNest RX6 148 "TicketWeaver$Mail" "ticket" "LTicketWeaver$Ticket;" "TicketWeaver") ∈ lw_nest := n_of (i := 848) (by decide +kernel) rfl
theorem n_849 : (Cond.fieldLinkNest RX4 92 "TicketWeaver$Mail" "ticket" "LTicketWeaver$Ticket;" "TicketWeaver") ∈ lw_nest := n_of (i := 849) (by decide +kernel) rfl
theorem n_900 : (Cond.castable "java/lang/ArrayIndexOutOfBoundsException" "java/lang/ArrayIndexOutOfBoundsException") ∈ lw_nest := n_of (i := 900) (by decide +kernel) rfl
theorem n_996 : (Cond.fieldLinkNest RX6 236 "TicketWeaver$Agent" "number" "I" "TicketWeaver") ∈ lw_nest := n_of (i := 996) (by decide +kernel) rfl
theorem n_998 : (Cond.fieldLinkNest RX6 215 "TicketWeaver$Agent" "skills" "I" "TicketWeaver") ∈ lw_nest := n_of (i := 998) (by decide +kernel) rfl
theorem n_1000 : (Cond.fieldLinkNest RX6 224 "TicketWeaver$Agent" "isOnShift" "Z" "TicketWeaver") ∈ lw_nest := n_of (i := 1000) (by decide +kernel) rfl
theorem n_1001 : (Cond.fieldLinkNest RX4 73 "TicketWeaver$Agent" "ticketCount" "I" "TicketWeaver") ∈ lw_nest := n_of (i := 1001) (by decide +kernel) rfl
theorem n_1002 : (Cond.fieldLinkNest RX6 231 "TicketWeaver$Agent" "ticketCount" "I" "TicketWeaver") ∈ lw_nest := n_of (i := 1002) (by decide +kernel) rfl
theorem n_1027 : (Cond.castable "java/lang/UnsupportedOperationException" "java/lang/UnsupportedOperationException") ∈ lw_nest := n_of (i := 1027) (by decide +kernel) rfl
theorem n_1212 : (Cond.fieldLinkNest RX6 403 "TicketWeaver$Prepared" "words" "I" "TicketWeaver") ∈ lw_nest := n_of (i := 1212) (by decide +kernel) rfl
theorem n_1214 : (Cond.fieldLinkNest RX6 313 "TicketWeaver$Prepared" "weights" "[I" "TicketWeaver") ∈ lw_nest := n_of (i := 1214) (by decide +kernel) rfl
theorem n_1276 : (Cond.castable "java/lang/ArithmeticException" "java/lang/ArithmeticException") ∈ lw_nest := n_of (i := 1276) (by decide +kernel) rfl
theorem n_1674 : (Cond.castable "java/lang/ArrayIndexOutOfBoundsException" "java/lang/IndexOutOfBoundsException") ∈ lw_nest := n_of (i := 1674) (by decide +kernel) rfl
theorem n_1675 : (Cond.castable "TicketWeaver$Customer" "java/lang/Object") ∈ lw_nest := n_of (i := 1675) (by decide +kernel) rfl
theorem n_1676 : (Cond.castable "TicketWeaver$TopicQueue" "java/lang/Object") ∈ lw_nest := n_of (i := 1676) (by decide +kernel) rfl
theorem n_1677 : (Cond.castable "TicketWeaver" "java/lang/Object") ∈ lw_nest := n_of (i := 1677) (by decide +kernel) rfl
theorem n_1678 : (Cond.castable "java/util/ArrayList" "java/lang/Object") ∈ lw_nest := n_of (i := 1678) (by decide +kernel) rfl
theorem n_1679 : (Cond.castable "TicketWeaverModel" "java/lang/Object") ∈ lw_nest := n_of (i := 1679) (by decide +kernel) rfl
theorem n_1680 : (Cond.castable "java/lang/IllegalArgumentException" "java/lang/Object") ∈ lw_nest := n_of (i := 1680) (by decide +kernel) rfl
theorem n_1681 : (Cond.castable "java/lang/IndexOutOfBoundsException" "java/lang/Object") ∈ lw_nest := n_of (i := 1681) (by decide +kernel) rfl
theorem n_1682 : (Cond.castable "java/lang/StringBuilder" "java/lang/Object") ∈ lw_nest := n_of (i := 1682) (by decide +kernel) rfl
theorem n_1683 : (Cond.castable "java/lang/String" "java/lang/Object") ∈ lw_nest := n_of (i := 1683) (by decide +kernel) rfl
theorem n_1684 : (Cond.castable "java/util/NoSuchElementException" "java/lang/Object") ∈ lw_nest := n_of (i := 1684) (by decide +kernel) rfl
theorem n_1685 : (Cond.castable "java/lang/IllegalStateException" "java/lang/Object") ∈ lw_nest := n_of (i := 1685) (by decide +kernel) rfl
theorem n_1686 : (Cond.castable "TicketWeaver$Ticket" "java/lang/Object") ∈ lw_nest := n_of (i := 1686) (by decide +kernel) rfl
theorem n_1687 : (Cond.castable "TicketWeaver$Mail" "java/lang/Object") ∈ lw_nest := n_of (i := 1687) (by decide +kernel) rfl
theorem n_1688 : (Cond.castable "java/lang/ArrayIndexOutOfBoundsException" "java/lang/Object") ∈ lw_nest := n_of (i := 1688) (by decide +kernel) rfl
theorem n_1689 : (Cond.castable "TicketWeaver$Agent" "java/lang/Object") ∈ lw_nest := n_of (i := 1689) (by decide +kernel) rfl
theorem n_1690 : (Cond.castable "java/lang/UnsupportedOperationException" "java/lang/Object") ∈ lw_nest := n_of (i := 1690) (by decide +kernel) rfl
theorem n_1691 : (Cond.castable "TicketWeaver$Prepared" "java/lang/Object") ∈ lw_nest := n_of (i := 1691) (by decide +kernel) rfl
theorem n_1692 : (Cond.castable "java/lang/ArithmeticException" "java/lang/Object") ∈ lw_nest := n_of (i := 1692) (by decide +kernel) rfl
theorem n_1693 : (Cond.castable "java/lang/Throwable" "java/lang/Object") ∈ lw_nest := n_of (i := 1693) (by decide +kernel) rfl
theorem n_1697 : (Cond.castable "[LTicketWeaver$Customer;" "java/lang/Object") ∈ lw_nest := n_of (i := 1697) (by decide +kernel) rfl
theorem n_1698 : (Cond.castable "[I" "java/lang/Object") ∈ lw_nest := n_of (i := 1698) (by decide +kernel) rfl
theorem n_1699 : (Cond.castable "[LTicketWeaver$TopicQueue;" "java/lang/Object") ∈ lw_nest := n_of (i := 1699) (by decide +kernel) rfl
theorem n_1700 : (Cond.castable "[B" "java/lang/Object") ∈ lw_nest := n_of (i := 1700) (by decide +kernel) rfl
theorem n_1701 : (Cond.castable "[Ljava/lang/Object;" "java/lang/Object") ∈ lw_nest := n_of (i := 1701) (by decide +kernel) rfl
theorem n_1702 : (Cond.castable "[C" "java/lang/Object") ∈ lw_nest := n_of (i := 1702) (by decide +kernel) rfl
theorem n_1703 : (Cond.castable "[Z" "java/lang/Object") ∈ lw_nest := n_of (i := 1703) (by decide +kernel) rfl
theorem n_1704 : (Cond.castable "[J" "java/lang/Object") ∈ lw_nest := n_of (i := 1704) (by decide +kernel) rfl
theorem n_1705 : (Cond.castable "[D" "java/lang/Object") ∈ lw_nest := n_of (i := 1705) (by decide +kernel) rfl
theorem s_0 : (Cond.selects RX6 yX6_hasEachMailOnce yX6_hasEachMailOnce) ∈ lw_good := t_ofS (i := 0) (by decide +kernel) (by decide +kernel)
theorem s_1 : (Cond.selects RX6 yX6_agreesOnNextTickets yX6_agreesOnNextTickets) ∈ lw_good := t_ofS (i := 1) (by decide +kernel) (by decide +kernel)
theorem s_2 : (Cond.selects RX6 yX6_nextFromQueues yX6_nextFromQueues) ∈ lw_good := t_ofS (i := 2) (by decide +kernel) (by decide +kernel)
theorem s_3 : (Cond.selects RX6 yX6_nextFromTickets yX6_nextFromTickets) ∈ lw_good := t_ofS (i := 3) (by decide +kernel) (by decide +kernel)
theorem s_4 : (Cond.selects "java/lang/Throwable" ⟨"java/lang/Throwable", "fillInStackTrace", "(I)Ljava/lang/Throwable;"⟩ ⟨"java/lang/Throwable", "fillInStackTrace", "(I)Ljava/lang/Throwable;"⟩) ∈ lw_good := t_ofS (i := 4) (by decide +kernel) (by decide +kernel)
theorem s_5 : (Cond.selects RX6 yX6_orderQueuesAnew yX6_orderQueuesAnew) ∈ lw_good := t_ofS (i := 5) (by decide +kernel) (by decide +kernel)
theorem s_6 : (Cond.selects RJx4a65c yJx4a65c_fastRemove_b59b0 yJx4a65c_fastRemove_b59b0) ∈ lw_good := t_ofS (i := 6) (by decide +kernel) (by decide +kernel)
theorem s_7 : (Cond.selects RX5 yX5_insertBelow yX5_insertBelow) ∈ lw_good := t_ofS (i := 7) (by decide +kernel) (by decide +kernel)
theorem s_8 : (Cond.selects RJx4a65c yJx4a65c_rangeCheckForAdd_d00df yJx4a65c_rangeCheckForAdd_d00df) ∈ lw_good := t_ofS (i := 8) (by decide +kernel) (by decide +kernel)
theorem s_9 : (Cond.selects RJx4a65c yJx4a65c_outOfBoundsMsg_b52d3 yJx4a65c_outOfBoundsMsg_b52d3) ∈ lw_good := t_ofS (i := 9) (by decide +kernel) (by decide +kernel)
theorem s_10 : (Cond.selects RJx4a65c yJx4a65c_grow_d5877 yJx4a65c_grow_d5877) ∈ lw_good := t_ofS (i := 10) (by decide +kernel) (by decide +kernel)
theorem s_11 : (Cond.selects RJx4a65c yJx4a65c_grow_92f84 yJx4a65c_grow_92f84) ∈ lw_good := t_ofS (i := 11) (by decide +kernel) (by decide +kernel)
theorem s_12 : (Cond.selects RX6 yX6_ticketToJoin yX6_ticketToJoin) ∈ lw_good := t_ofS (i := 12) (by decide +kernel) (by decide +kernel)
theorem s_13 : (Cond.selects RX6 yX6_latestWithSubject yX6_latestWithSubject) ∈ lw_good := t_ofS (i := 13) (by decide +kernel) (by decide +kernel)
theorem s_14 : (Cond.selects RJx4a65c yJx4a65c_add_72be8 yJx4a65c_add_72be8) ∈ lw_good := t_ofS (i := 14) (by decide +kernel) (by decide +kernel)
theorem s_15 : (Cond.selects RX6 yX6_leaveQueue yX6_leaveQueue) ∈ lw_good := t_ofS (i := 15) (by decide +kernel) (by decide +kernel)
theorem s_16 : (Cond.selects RX6 yX6_addMail yX6_addMail) ∈ lw_good := t_ofS (i := 16) (by decide +kernel) (by decide +kernel)
theorem s_17 : (Cond.selects RX6 yX6_joinQueue yX6_joinQueue) ∈ lw_good := t_ofS (i := 17) (by decide +kernel) (by decide +kernel)
theorem s_18 : (Cond.selects RX6 yX6_ticketNumbered yX6_ticketNumbered) ∈ lw_good := t_ofS (i := 18) (by decide +kernel) (by decide +kernel)
theorem s_19 : (Cond.selects RX6 yX6_agentNumbered yX6_agentNumbered) ∈ lw_good := t_ofS (i := 19) (by decide +kernel) (by decide +kernel)
theorem s_20 : (Cond.selects RX6 yX6_giveAllBack yX6_giveAllBack) ∈ lw_good := t_ofS (i := 20) (by decide +kernel) (by decide +kernel)
theorem s_21 : (Cond.selects RX6 yX6_isAnswer yX6_isAnswer) ∈ lw_good := t_ofS (i := 21) (by decide +kernel) (by decide +kernel)
theorem s_22 : (Cond.selects RX6 yX6_countAnswer yX6_countAnswer) ∈ lw_good := t_ofS (i := 22) (by decide +kernel) (by decide +kernel)
theorem s_23 : (Cond.selects RX6 yX6_closedTickets yX6_closedTickets) ∈ lw_good := t_ofS (i := 23) (by decide +kernel) (by decide +kernel)
theorem s_24 : (Cond.selects RX6 yX6_bestFromAnswers yX6_bestFromAnswers) ∈ lw_good := t_ofS (i := 24) (by decide +kernel) (by decide +kernel)
theorem s_25 : (Cond.selects RX6 yX6_bestFromWords yX6_bestFromWords) ∈ lw_good := t_ofS (i := 25) (by decide +kernel) (by decide +kernel)
theorem s_26 : (Cond.selects RX6 yX6_scoreWords yX6_scoreWords) ∈ lw_good := t_ofS (i := 26) (by decide +kernel) (by decide +kernel)
theorem s_27 : (Cond.selects RX6 yX6_scoreWord yX6_scoreWord) ∈ lw_good := t_ofS (i := 27) (by decide +kernel) (by decide +kernel)
theorem s_28 : (Cond.selects RX7 yX7_checked yX7_checked) ∈ lw_good := t_ofS (i := 28) (by decide +kernel) (by decide +kernel)
theorem s_29 : (Cond.selects RX7 yX7_minute yX7_minute) ∈ lw_good := t_ofS (i := 29) (by decide +kernel) (by decide +kernel)
theorem s_30 : (Cond.selects RX7 yX7_leftFor yX7_leftFor) ∈ lw_good := t_ofS (i := 30) (by decide +kernel) (by decide +kernel)
theorem s_31 : (Cond.selects RX7 yX7_plain yX7_plain) ∈ lw_good := t_ofS (i := 31) (by decide +kernel) (by decide +kernel)
theorem s_32 : (Cond.selects RX7 yX7_joined yX7_joined) ∈ lw_good := t_ofS (i := 32) (by decide +kernel) (by decide +kernel)
theorem s_33 : (Cond.selects RX7 yX7_counts yX7_counts) ∈ lw_good := t_ofS (i := 33) (by decide +kernel) (by decide +kernel)
theorem s_34 : (Cond.selects RX7 yX7_isLive yX7_isLive) ∈ lw_good := t_ofS (i := 34) (by decide +kernel) (by decide +kernel)
theorem s_35 : (Cond.selects RX7 yX7_latest yX7_latest) ∈ lw_good := t_ofS (i := 35) (by decide +kernel) (by decide +kernel)
theorem s_36 : (Cond.selects RX7 yX7_makes yX7_makes) ∈ lw_good := t_ofS (i := 36) (by decide +kernel) (by decide +kernel)
theorem s_37 : (Cond.selects RX7 yX7_opens yX7_opens) ∈ lw_good := t_ofS (i := 37) (by decide +kernel) (by decide +kernel)
theorem s_38 : (Cond.selects RX7 yX7_learns yX7_learns) ∈ lw_good := t_ofS (i := 38) (by decide +kernel) (by decide +kernel)
theorem s_39 : (Cond.selects RX7 yX7_isTicket yX7_isTicket) ∈ lw_good := t_ofS (i := 39) (by decide +kernel) (by decide +kernel)
theorem s_40 : (Cond.selects RX7 yX7_countOf yX7_countOf) ∈ lw_good := t_ofS (i := 40) (by decide +kernel) (by decide +kernel)
theorem s_41 : (Cond.selects RX7 yX7_hasSkill yX7_hasSkill) ∈ lw_good := t_ofS (i := 41) (by decide +kernel) (by decide +kernel)
theorem s_42 : (Cond.selects RX7 yX7_wrongLive yX7_wrongLive) ∈ lw_good := t_ofS (i := 42) (by decide +kernel) (by decide +kernel)
theorem s_43 : (Cond.selects RX7 yX7_isAgent yX7_isAgent) ∈ lw_good := t_ofS (i := 43) (by decide +kernel) (by decide +kernel)
theorem s_44 : (Cond.selects RX7 yX7_heldBy yX7_heldBy) ∈ lw_good := t_ofS (i := 44) (by decide +kernel) (by decide +kernel)
theorem s_45 : (Cond.selects RX7 yX7_next yX7_next) ∈ lw_good := t_ofS (i := 45) (by decide +kernel) (by decide +kernel)
theorem s_46 : (Cond.selects RX7 yX7_isFor yX7_isFor) ∈ lw_good := t_ofS (i := 46) (by decide +kernel) (by decide +kernel)
theorem s_47 : (Cond.selects RX7 yX7_canAnswer yX7_canAnswer) ∈ lw_good := t_ofS (i := 47) (by decide +kernel) (by decide +kernel)
theorem s_48 : (Cond.selects RX7 yX7_isSooner yX7_isSooner) ∈ lw_good := t_ofS (i := 48) (by decide +kernel) (by decide +kernel)
theorem s_49 : (Cond.selects RX7 yX7_turns yX7_turns) ∈ lw_good := t_ofS (i := 49) (by decide +kernel) (by decide +kernel)
theorem s_50 : (Cond.selects RX7 yX7_wordsOf yX7_wordsOf) ∈ lw_good := t_ofS (i := 50) (by decide +kernel) (by decide +kernel)
end
